theorem kc_X6_sheet : kV yX6_sheet cX6_sheet 4 (some .int) 3 := ⟨kw_3_237, kw_3_238, kw_1_1, kw_3_239, by decide, by decide, by decide +kernel⟩
set_option maxHeartbeats 4000000 in
set_option maxRecDepth 100000 in
theorem c_X6_sheet (l : Launch) (D : va_G) (cy : Nat → ClassId) (G : Nat → Nat) (sz : Nat) (hh : Nat → Nat) (a : Nat → Nat) (kk : Nat → Nat) (dd : Nat → Nat) (b : Nat → Nat) (w : Nat → Nat) (ee : Nat → Nat) (qq : Nat → Nat) (ik : Int32) (C : Nat → Int32) (bi : Nat → Int32) (si : Nat → Int32) (f : Nat → Nat → Int64) (x1 : Int32) (x2 : Int32) (x3 : Int32) (hso : shOk si f) : Met l yX6_sheet (wm yX6_sheet cX6_sheet 4 (some .int)) { frames := 1, cells := 0, slots := 0, locals := 23 } (va_Pc [.ref (hh 0), .int x1, .int x2, .int x3] (pr D (TY cy) G ([sO cy hh a kk dd b w ee qq ik, ia cy (hh 1) 7 C] ++ (shB cy qq bi si f)) sz)) (va_Qi (fun (r : Int32) (u : Unit) => r = ans (cLay x1 x2 x3) (if x2 = 0 then 0 else x3)) (fun (u : Unit) t => po D (va_A ([sO cy hh a kk dd b w ee qq ik, ia cy (hh 1) 7 C] ++ (shB cy qq bi si f)) sz) ([sO cy hh a kk dd b w ee qq ik, ia cy (hh 1) 7 (fnd C (cLay x1 x2 x3))] ++ (shB cy qq (if cLay x1 x2 x3 = 7 then va_up bi (bstN x1) x2 else bi) (if cLay x1 x2 x3 = 7 then va_up si (bstN x1) (if x2 = 0 then 0 else x3) else si) (if cLay x1 x2 x3 = 7 then va_up f (bstN x1) (fun _ => 0) else f))) t) (va_A ([sO cy hh a kk dd b w ee qq ik, ia cy (hh 1) 7 C] ++ (shB cy qq bi si f)) sz)) 0 0 (va_A ([sO cy hh a kk dd b w ee qq ik, ia cy (hh 1) 7 C] ++ (shB cy qq bi si f)) sz) := by
  refine mk_rw (by decide) RX6 rfl (Nat.le_of_ble_eq_true rfl) [(0, .ref (hh 0)), (1, .int x1), (2, .int x2), (3, .int x3)] rfl ?_
  intro p e s m below meth c hx hb hml hown hr hlocks hin hw hsz hA hG hK H0 locs0 hP0 hD0 hS0 ls0 hl0
  clear hin
  have hz0 := (hso 0 (by decide)).1
  have hz1 := (hso 1 (by decide)).1
  have hz2 := (hso 2 (by decide)).1
  have hz3 := (hso 3 (by decide)).1
  have hq0 := (hso 0 (by decide)).2.1
  have hq1 := (hso 1 (by decide)).2.1
  have hq2 := (hso 2 (by decide)).2.1
  have hq3 := (hso 3 (by decide)).2.1
  have hb0 : bstN 0 = 0 := rfl
  have hb1 : bstN 1 = 1 := rfl
  have hb2 : bstN 2 = 2 := rfl
  have hb3 : bstN 3 = 3 := rfl
  refine lv_aload_n hx hb dX6_sheet_0 rfl (lv_at hl0 0 rfl) ?_
  refine lv_iload_n hx hb dX6_sheet_1 rfl (lv_at hl0 1 rfl) ?_
  refine rV_i (wc := [sO cy hh a kk dd b w ee qq ik]) (rest := []) hx hb hml hown hw hG hK hP0 hS0 hA hl0 kc_X6_isSheet kw_3_128 [.int x1] (c_X6_isSheet l D cy G H0.size hh a kk dd b w ee qq ik x1) [0] rfl 0 rfl rfl rfl rfl rfl (Nat.le_of_ble_eq_true rfl) ⟨Nat.le_of_ble_eq_true rfl, Nat.le_of_ble_eq_true rfl⟩ dX6_sheet_2 ⟨Nat.le_of_ble_eq_true rfl, Nat.le_of_ble_eq_true rfl⟩ (fun r_2 H1 locs1 hr_2 hP1 hS1 => ?_)
  have hD1 := hD0
  clear hP0 hD0 hS0 locs0 H0
  subst hr_2
  refine lb_eq (tgt := 30) hx hb dX6_sheet_5 (by decide) (fun c_5 => ?_) (fun c_5 => ?_)
  · refine lv_aload_n hx hb dX6_sheet_30 rfl (lv_at hl0 0 rfl) ?_
    refine lv_iconst (v := 0) hx hb dX6_sheet_31 (by decide) ?_
    refine cV_i (wc := [sO cy hh a kk dd b w ee qq ik, ia cy (hh 1) 7 C]) (wr := shB cy qq bi si f) (rest := []) hx hb hml hown hw hG hK hP1 hD1 hS1 hA hl0 kc_X6_find kw_2_59 [.int 0] (c_X6_find l D cy G H1.size hh a kk dd b w ee qq ik C 0 (by first | omega | assumption)) [0, 1] [2, 3, 4, 5, 6, 7, 8, 9, 10] rfl rfl rfl rfl rfl 0 rfl rfl rfl rfl rfl (Nat.le_of_ble_eq_true rfl) ⟨Nat.le_of_ble_eq_true rfl, Nat.le_of_ble_eq_true rfl⟩ dX6_sheet_32 ⟨Nat.le_of_ble_eq_true rfl, Nat.le_of_ble_eq_true rfl⟩ (fun r_32 u9 H2 locs2 hu9 hP2 hD2 hS2 => ?_)
    clear hP1 hD1 hS1 locs1 H1
    have hr_32 := hu9
    replace hP2 : va_P D vwCl (shB cy qq bi si f ++ ([sO cy hh a kk dd b w ee qq ik, ia cy (hh 1) 7 (upd C 0 (C 0 + 1))])) H2 := hP2
    replace hD2 : va_D (va_A _ sz) (shB cy qq bi si f ++ ([sO cy hh a kk dd b w ee qq ik, ia cy (hh 1) 7 (upd C 0 (C 0 + 1))])) := hD2
    replace hP2 := hP2.sub (ws' := [sO cy hh a kk dd b w ee qq ik, ia cy (hh 1) 7 (upd C 0 (C 0 + 1))] ++ (shB cy qq bi si f)) [9, 10, 0, 1, 2, 3, 4, 5, 6, 7, 8] rfl
    replace hD2 := hD2.sub (ws' := [sO cy hh a kk dd b w ee qq ik, ia cy (hh 1) 7 (upd C 0 (C 0 + 1))] ++ (shB cy qq bi si f)) [9, 10, 0, 1, 2, 3, 4, 5, 6, 7, 8] (by decide) rfl
    subst hr_32
    have hcd : cLay x1 x2 x3 = 0 := by unfold cLay; clear hx hb hml hown hr hlocks hw hsz hA hG hK hP2 hD2 hS2 hl0; grind
    have hq9 : ([sO cy hh a kk dd b w ee qq ik, ia cy (hh 1) 7 (upd C 0 (C 0 + 1))] ++ (shB cy qq bi si f)) = ([sO cy hh a kk dd b w ee qq ik, ia cy (hh 1) 7 (fnd C (cLay x1 x2 x3))] ++ (shB cy qq bi si f)) := congrArg (fun z9 => [sO cy hh a kk dd b w ee qq ik, ia cy (hh 1) 7 z9] ++ (shB cy qq bi si f)) (show (upd C 0 (C 0 + 1)) = (fnd C (cLay x1 x2 x3)) from fnd_f hcd (by decide))
    replace hP2 := (congrArg (fun z9 => va_P D vwCl z9 _) hq9).mp hP2
    replace hD2 := (congrArg (fun z9 => va_D _ z9) hq9).mp hD2
    clear hq9
    have hq9 : ([sO cy hh a kk dd b w ee qq ik, ia cy (hh 1) 7 (fnd C (cLay x1 x2 x3))] ++ (shB cy qq bi si f)) = ([sO cy hh a kk dd b w ee qq ik, ia cy (hh 1) 7 (fnd C (cLay x1 x2 x3))] ++ (shB cy qq (if cLay x1 x2 x3 = 7 then va_up bi (bstN x1) x2 else bi) si f)) := congrArg (fun z9 => [sO cy hh a kk dd b w ee qq ik, ia cy (hh 1) 7 (fnd C (cLay x1 x2 x3))] ++ (shB cy qq z9 si f)) (show bi = (if cLay x1 x2 x3 = 7 then va_up bi (bstN x1) x2 else bi) from (if_neg (fun z9 => absurd (hcd.symm.trans z9) (by decide))).symm)
    replace hP2 := (congrArg (fun z9 => va_P D vwCl z9 _) hq9).mp hP2
    replace hD2 := (congrArg (fun z9 => va_D _ z9) hq9).mp hD2
    clear hq9
    have hq9 : ([sO cy hh a kk dd b w ee qq ik, ia cy (hh 1) 7 (fnd C (cLay x1 x2 x3))] ++ (shB cy qq (if cLay x1 x2 x3 = 7 then va_up bi (bstN x1) x2 else bi) si f)) = ([sO cy hh a kk dd b w ee qq ik, ia cy (hh 1) 7 (fnd C (cLay x1 x2 x3))] ++ (shB cy qq (if cLay x1 x2 x3 = 7 then va_up bi (bstN x1) x2 else bi) (if cLay x1 x2 x3 = 7 then va_up si (bstN x1) (if x2 = 0 then 0 else x3) else si) f)) := congrArg (fun z9 => [sO cy hh a kk dd b w ee qq ik, ia cy (hh 1) 7 (fnd C (cLay x1 x2 x3))] ++ (shB cy qq (if cLay x1 x2 x3 = 7 then va_up bi (bstN x1) x2 else bi) z9 f)) (show si = (if cLay x1 x2 x3 = 7 then va_up si (bstN x1) (if x2 = 0 then 0 else x3) else si) from (if_neg (fun z9 => absurd (hcd.symm.trans z9) (by decide))).symm)
    replace hP2 := (congrArg (fun z9 => va_P D vwCl z9 _) hq9).mp hP2
    replace hD2 := (congrArg (fun z9 => va_D _ z9) hq9).mp hD2
    clear hq9
    have hq9 : ([sO cy hh a kk dd b w ee qq ik, ia cy (hh 1) 7 (fnd C (cLay x1 x2 x3))] ++ (shB cy qq (if cLay x1 x2 x3 = 7 then va_up bi (bstN x1) x2 else bi) (if cLay x1 x2 x3 = 7 then va_up si (bstN x1) (if x2 = 0 then 0 else x3) else si) f)) = ([sO cy hh a kk dd b w ee qq ik, ia cy (hh 1) 7 (fnd C (cLay x1 x2 x3))] ++ (shB cy qq (if cLay x1 x2 x3 = 7 then va_up bi (bstN x1) x2 else bi) (if cLay x1 x2 x3 = 7 then va_up si (bstN x1) (if x2 = 0 then 0 else x3) else si) (if cLay x1 x2 x3 = 7 then va_up f (bstN x1) (fun _ => 0) else f))) := congrArg (fun z9 => [sO cy hh a kk dd b w ee qq ik, ia cy (hh 1) 7 (fnd C (cLay x1 x2 x3))] ++ (shB cy qq (if cLay x1 x2 x3 = 7 then va_up bi (bstN x1) x2 else bi) (if cLay x1 x2 x3 = 7 then va_up si (bstN x1) (if x2 = 0 then 0 else x3) else si) z9)) (show f = (if cLay x1 x2 x3 = 7 then va_up f (bstN x1) (fun _ => 0) else f) from (if_neg (fun z9 => absurd (hcd.symm.trans z9) (by decide))).symm)
    replace hP2 := (congrArg (fun z9 => va_P D vwCl z9 _) hq9).mp hP2
    replace hD2 := (congrArg (fun z9 => va_D _ z9) hq9).mp hD2
    clear hq9
    refine re_i () hx hb hr hlocks hP2 hD2 hS2 dX6_sheet_35 ?_
    exact (ans_f hcd (by decide) rfl)
  · refine lv_iload_n hx hb dX6_sheet_8 rfl (lv_at hl0 2 rfl) ?_
    refine lv_if_eq (tgt := 36) hx hb dX6_sheet_9 (by decide) (fun c_9 => ?_) (fun c_9 => ?_)
    · refine lv_iload_n hx hb dX6_sheet_36 rfl (lv_at hl0 3 rfl) ?_
      refine lv_if_ge (tgt := 47) hx hb dX6_sheet_37 (by decide) (fun c_37 => ?_) (fun c_37 => ?_)
      · refine lv_iload_n hx hb dX6_sheet_47 rfl (lv_at hl0 3 rfl) ?_
        refine lv_bipush (v := 40) hx hb dX6_sheet_48 (by decide) ?_
        refine lv_icmp_le (tgt := 59) hx hb dX6_sheet_50 (by decide) (fun c_50 => ?_) (fun c_50 => ?_)
        · rcases in3 c_5 with rfl | rfl | rfl | rfl
          · replace hP1 : va_P D vwCl ([sO cy hh a kk dd b w ee qq ik, ia cy (hh 1) 7 C, qsB cy qq, hO cy (qq 1) (qq 5) (bi 0) (si 0), hO cy (qq 2) (qq 6) (bi 1) (si 1), hO cy (qq 3) (qq 7) (bi 2) (si 2), hO cy (qq 4) (qq 8) (bi 3) (si 3), la cy (qq 5) 40 (f 0), la cy (qq 6) 40 (f 1), la cy (qq 7) 40 (f 2), la cy (qq 8) 40 (f 3)]) H1 := hP1
            replace hD1 : va_D (va_A _ sz) ([sO cy hh a kk dd b w ee qq ik, ia cy (hh 1) 7 C, qsB cy qq, hO cy (qq 1) (qq 5) (bi 0) (si 0), hO cy (qq 2) (qq 6) (bi 1) (si 1), hO cy (qq 3) (qq 7) (bi 2) (si 2), hO cy (qq 4) (qq 8) (bi 3) (si 3), la cy (qq 5) 40 (f 0), la cy (qq 6) 40 (f 1), la cy (qq 7) 40 (f 2), la cy (qq 8) 40 (f 3)]) := hD1
            refine lv_aload_n hx hb dX6_sheet_59 rfl (lv_at hl0 0 rfl) ?_
            refine va_get (D := D) (ci := 6) (v := .ref (qq 0)) (C := RX6) (T := TX6) (N := 9) hx hb hw iX6 hown hK hP1 0 rfl rfl 7 (by decide) (hw _ kw_2_34) (fun _ h9 => h9) rfl dX6_sheet_60 ?_
            refine lv_iload_n hx hb dX6_sheet_63 rfl (lv_at hl0 1 rfl) ?_
            refine ald_q hx hb hK hP1 2 3 rfl rfl rfl 0 rfl (by first | omega | assumption) (by decide) (rfl) dX6_sheet_64 ?_
            refine lv_iload_n hx hb dX6_sheet_65 rfl (lv_at hl0 2 rfl) ?_
            refine lv_iload_n hx hb dX6_sheet_66 rfl (lv_at hl0 2 rfl) ?_
            refine lv_if_ne (tgt := 74) hx hb dX6_sheet_67 (by decide) (fun c_67 => ?_) (fun c_67 => ?_)
            · refine lv_iload_n hx hb dX6_sheet_74 rfl (lv_at hl0 3 rfl) ?_
              refine tp (show (x3) = if x2 = 0 then 0 else x3 from (if_neg c_67).symm) ?_
              refine cV_v (wc := [hO cy (qq 1) (qq 5) (bi 0) (si 0), la cy (qq 5) 40 (f 0)]) (wr := [sO cy hh a kk dd b w ee qq ik, ia cy (hh 1) 7 C, qsB cy qq, hO cy (qq 2) (qq 6) (bi 1) (si 1), hO cy (qq 3) (qq 7) (bi 2) (si 2), hO cy (qq 4) (qq 8) (bi 3) (si 3), la cy (qq 6) 40 (f 1), la cy (qq 7) 40 (f 2), la cy (qq 8) 40 (f 3)]) (rest := []) hx hb hml hown hw hG hK hP1 hD1 hS1 hA hl0 kc_X2_lay kw_4_0 [.int x2, .int (if x2 = 0 then 0 else x3)] (c_X2_lay l D cy G H1.size (qq 1) (qq 5) (bi 0) (si 0) (f 0) x2 (if x2 = 0 then 0 else x3) ((hso 0 (by decide)).2.2)) [3, 7] [0, 1, 2, 4, 5, 6, 8, 9, 10] rfl rfl rfl rfl rfl 0 rfl rfl rfl rfl rfl (Nat.le_of_ble_eq_true rfl) ⟨Nat.le_of_ble_eq_true rfl, Nat.le_of_ble_eq_true rfl⟩ dX6_sheet_75 ⟨Nat.le_of_ble_eq_true rfl, Nat.le_of_ble_eq_true rfl⟩ (fun u9 H2 locs2 hu9 hP2 hD2 hS2 => ?_)
              clear hP1 hD1 hS1 locs1 H1
              replace hP2 : va_P D vwCl ([sO cy hh a kk dd b w ee qq ik, ia cy (hh 1) 7 C, qsB cy qq, hO cy (qq 2) (qq 6) (bi 1) (si 1), hO cy (qq 3) (qq 7) (bi 2) (si 2), hO cy (qq 4) (qq 8) (bi 3) (si 3), la cy (qq 6) 40 (f 1), la cy (qq 7) 40 (f 2), la cy (qq 8) 40 (f 3), hO cy (qq 1) (qq 5) x2 (if x2 = 0 then 0 else x3), la cy (qq 5) 40 (fun _ => 0)]) H2 := hP2
              replace hD2 : va_D (va_A _ sz) ([sO cy hh a kk dd b w ee qq ik, ia cy (hh 1) 7 C, qsB cy qq, hO cy (qq 2) (qq 6) (bi 1) (si 1), hO cy (qq 3) (qq 7) (bi 2) (si 2), hO cy (qq 4) (qq 8) (bi 3) (si 3), la cy (qq 6) 40 (f 1), la cy (qq 7) 40 (f 2), la cy (qq 8) 40 (f 3), hO cy (qq 1) (qq 5) x2 (if x2 = 0 then 0 else x3), la cy (qq 5) 40 (fun _ => 0)]) := hD2
              replace hP2 := hP2.sub (ws' := [sO cy hh a kk dd b w ee qq ik, ia cy (hh 1) 7 C, qsB cy qq, hO cy (qq 1) (qq 5) x2 (if x2 = 0 then 0 else x3), hO cy (qq 2) (qq 6) (bi 1) (si 1), hO cy (qq 3) (qq 7) (bi 2) (si 2), hO cy (qq 4) (qq 8) (bi 3) (si 3), la cy (qq 5) 40 (fun _ => 0), la cy (qq 6) 40 (f 1), la cy (qq 7) 40 (f 2), la cy (qq 8) 40 (f 3)]) [0, 1, 2, 9, 3, 4, 5, 10, 6, 7, 8] rfl
              replace hD2 := hD2.sub (ws' := [sO cy hh a kk dd b w ee qq ik, ia cy (hh 1) 7 C, qsB cy qq, hO cy (qq 1) (qq 5) x2 (if x2 = 0 then 0 else x3), hO cy (qq 2) (qq 6) (bi 1) (si 1), hO cy (qq 3) (qq 7) (bi 2) (si 2), hO cy (qq 4) (qq 8) (bi 3) (si 3), la cy (qq 5) 40 (fun _ => 0), la cy (qq 6) 40 (f 1), la cy (qq 7) 40 (f 2), la cy (qq 8) 40 (f 3)]) [0, 1, 2, 9, 3, 4, 5, 10, 6, 7, 8] (by decide) rfl
              refine lv_aload_n hx hb dX6_sheet_78 rfl (lv_at hl0 0 rfl) ?_
              refine va_get (D := D) (ci := 6) (v := .ref (qq 0)) (C := RX6) (T := TX6) (N := 9) hx hb hw iX6 hown hK hP2 0 rfl rfl 7 (by decide) (hw _ kw_2_34) (fun _ h9 => h9) rfl dX6_sheet_79 ?_
              refine lv_iload_n hx hb dX6_sheet_82 rfl (lv_at hl0 1 rfl) ?_
              refine ald_q hx hb hK hP2 2 3 rfl rfl rfl 0 rfl (by first | omega | assumption) (by decide) (rfl) dX6_sheet_83 ?_
              refine va_get (D := D) (ci := 2) (v := .int (if x2 = 0 then 0 else x3)) (C := RX2) (T := TX2) (N := 3) hx hb hw iX2 hown hK hP2 3 rfl rfl 2 (by decide) (hw _ kw_2_18) (fun _ h9 => h9) rfl dX6_sheet_84 ?_
              replace hP2 : va_P D vwCl ([sO cy hh a kk dd b w ee qq ik, ia cy (hh 1) 7 C] ++ (shB cy qq (va_up bi 0 x2) (va_up si 0 (if x2 = 0 then 0 else x3)) (va_up f 0 (fun _ => 0)))) H2 := hP2
              replace hD2 : va_D (va_A _ sz) ([sO cy hh a kk dd b w ee qq ik, ia cy (hh 1) 7 C] ++ (shB cy qq (va_up bi 0 x2) (va_up si 0 (if x2 = 0 then 0 else x3)) (va_up f 0 (fun _ => 0)))) := hD2
              have hcd : cLay 0 x2 x3 = 7 := by unfold cLay; clear hx hb hml hown hr hlocks hw hsz hA hG hK hP2 hD2 hS2 hl0; grind
              have hq9 : ([sO cy hh a kk dd b w ee qq ik, ia cy (hh 1) 7 C] ++ (shB cy qq (va_up bi 0 x2) (va_up si 0 (if x2 = 0 then 0 else x3)) (va_up f 0 (fun _ => 0)))) = ([sO cy hh a kk dd b w ee qq ik, ia cy (hh 1) 7 (fnd C (cLay 0 x2 x3))] ++ (shB cy qq (va_up bi 0 x2) (va_up si 0 (if x2 = 0 then 0 else x3)) (va_up f 0 (fun _ => 0)))) := congrArg (fun z9 => [sO cy hh a kk dd b w ee qq ik, ia cy (hh 1) 7 z9] ++ (shB cy qq (va_up bi 0 x2) (va_up si 0 (if x2 = 0 then 0 else x3)) (va_up f 0 (fun _ => 0)))) (show C = (fnd C (cLay 0 x2 x3)) from fnd_o hcd)
              replace hP2 := (congrArg (fun z9 => va_P D vwCl z9 _) hq9).mp hP2
              replace hD2 := (congrArg (fun z9 => va_D _ z9) hq9).mp hD2
              clear hq9
              have hq9 : ([sO cy hh a kk dd b w ee qq ik, ia cy (hh 1) 7 (fnd C (cLay 0 x2 x3))] ++ (shB cy qq (va_up bi 0 x2) (va_up si 0 (if x2 = 0 then 0 else x3)) (va_up f 0 (fun _ => 0)))) = ([sO cy hh a kk dd b w ee qq ik, ia cy (hh 1) 7 (fnd C (cLay 0 x2 x3))] ++ (shB cy qq (if cLay 0 x2 x3 = 7 then va_up bi (bstN 0) x2 else bi) (va_up si 0 (if x2 = 0 then 0 else x3)) (va_up f 0 (fun _ => 0)))) := congrArg (fun z9 => [sO cy hh a kk dd b w ee qq ik, ia cy (hh 1) 7 (fnd C (cLay 0 x2 x3))] ++ (shB cy qq z9 (va_up si 0 (if x2 = 0 then 0 else x3)) (va_up f 0 (fun _ => 0)))) (show (va_up bi 0 x2) = (if cLay 0 x2 x3 = 7 then va_up bi (bstN 0) x2 else bi) from by rw [if_pos hcd]; simp only [hb0, hb1, hb2, hb3])
              replace hP2 := (congrArg (fun z9 => va_P D vwCl z9 _) hq9).mp hP2
              replace hD2 := (congrArg (fun z9 => va_D _ z9) hq9).mp hD2
              clear hq9
              have hq9 : ([sO cy hh a kk dd b w ee qq ik, ia cy (hh 1) 7 (fnd C (cLay 0 x2 x3))] ++ (shB cy qq (if cLay 0 x2 x3 = 7 then va_up bi (bstN 0) x2 else bi) (va_up si 0 (if x2 = 0 then 0 else x3)) (va_up f 0 (fun _ => 0)))) = ([sO cy hh a kk dd b w ee qq ik, ia cy (hh 1) 7 (fnd C (cLay 0 x2 x3))] ++ (shB cy qq (if cLay 0 x2 x3 = 7 then va_up bi (bstN 0) x2 else bi) (if cLay 0 x2 x3 = 7 then va_up si (bstN 0) (if x2 = 0 then 0 else x3) else si) (va_up f 0 (fun _ => 0)))) := congrArg (fun z9 => [sO cy hh a kk dd b w ee qq ik, ia cy (hh 1) 7 (fnd C (cLay 0 x2 x3))] ++ (shB cy qq (if cLay 0 x2 x3 = 7 then va_up bi (bstN 0) x2 else bi) z9 (va_up f 0 (fun _ => 0)))) (show (va_up si 0 (if x2 = 0 then 0 else x3)) = (if cLay 0 x2 x3 = 7 then va_up si (bstN 0) (if x2 = 0 then 0 else x3) else si) from by rw [if_pos hcd]; simp only [hb0, hb1, hb2, hb3])
              replace hP2 := (congrArg (fun z9 => va_P D vwCl z9 _) hq9).mp hP2
              replace hD2 := (congrArg (fun z9 => va_D _ z9) hq9).mp hD2
              clear hq9
              have hq9 : ([sO cy hh a kk dd b w ee qq ik, ia cy (hh 1) 7 (fnd C (cLay 0 x2 x3))] ++ (shB cy qq (if cLay 0 x2 x3 = 7 then va_up bi (bstN 0) x2 else bi) (if cLay 0 x2 x3 = 7 then va_up si (bstN 0) (if x2 = 0 then 0 else x3) else si) (va_up f 0 (fun _ => 0)))) = ([sO cy hh a kk dd b w ee qq ik, ia cy (hh 1) 7 (fnd C (cLay 0 x2 x3))] ++ (shB cy qq (if cLay 0 x2 x3 = 7 then va_up bi (bstN 0) x2 else bi) (if cLay 0 x2 x3 = 7 then va_up si (bstN 0) (if x2 = 0 then 0 else x3) else si) (if cLay 0 x2 x3 = 7 then va_up f (bstN 0) (fun _ => 0) else f))) := congrArg (fun z9 => [sO cy hh a kk dd b w ee qq ik, ia cy (hh 1) 7 (fnd C (cLay 0 x2 x3))] ++ (shB cy qq (if cLay 0 x2 x3 = 7 then va_up bi (bstN 0) x2 else bi) (if cLay 0 x2 x3 = 7 then va_up si (bstN 0) (if x2 = 0 then 0 else x3) else si) z9)) (show (va_up f 0 (fun _ => 0)) = (if cLay 0 x2 x3 = 7 then va_up f (bstN 0) (fun _ => 0) else f) from by rw [if_pos hcd]; simp only [hb0, hb1, hb2, hb3])
              replace hP2 := (congrArg (fun z9 => va_P D vwCl z9 _) hq9).mp hP2
              replace hD2 := (congrArg (fun z9 => va_D _ z9) hq9).mp hD2
              clear hq9
              refine re_i () hx hb hr hlocks hP2 hD2 hS2 dX6_sheet_87 ?_
              exact (ans_o hcd (rfl))
            · refine lv_iconst (v := 0) hx hb dX6_sheet_70 (by decide) ?_
              refine lv_goto (tgt := 75) hx hb dX6_sheet_71 (by decide) ?_
              refine tp (show (0) = if x2 = 0 then 0 else x3 from (if_pos c_67).symm) ?_
              refine cV_v (wc := [hO cy (qq 1) (qq 5) (bi 0) (si 0), la cy (qq 5) 40 (f 0)]) (wr := [sO cy hh a kk dd b w ee qq ik, ia cy (hh 1) 7 C, qsB cy qq, hO cy (qq 2) (qq 6) (bi 1) (si 1), hO cy (qq 3) (qq 7) (bi 2) (si 2), hO cy (qq 4) (qq 8) (bi 3) (si 3), la cy (qq 6) 40 (f 1), la cy (qq 7) 40 (f 2), la cy (qq 8) 40 (f 3)]) (rest := []) hx hb hml hown hw hG hK hP1 hD1 hS1 hA hl0 kc_X2_lay kw_4_0 [.int x2, .int (if x2 = 0 then 0 else x3)] (c_X2_lay l D cy G H1.size (qq 1) (qq 5) (bi 0) (si 0) (f 0) x2 (if x2 = 0 then 0 else x3) ((hso 0 (by decide)).2.2)) [3, 7] [0, 1, 2, 4, 5, 6, 8, 9, 10] rfl rfl rfl rfl rfl 0 rfl rfl rfl rfl rfl (Nat.le_of_ble_eq_true rfl) ⟨Nat.le_of_ble_eq_true rfl, Nat.le_of_ble_eq_true rfl⟩ dX6_sheet_75 ⟨Nat.le_of_ble_eq_true rfl, Nat.le_of_ble_eq_true rfl⟩ (fun u9 H2 locs2 hu9 hP2 hD2 hS2 => ?_)
              clear hP1 hD1 hS1 locs1 H1
              replace hP2 : va_P D vwCl ([sO cy hh a kk dd b w ee qq ik, ia cy (hh 1) 7 C, qsB cy qq, hO cy (qq 2) (qq 6) (bi 1) (si 1), hO cy (qq 3) (qq 7) (bi 2) (si 2), hO cy (qq 4) (qq 8) (bi 3) (si 3), la cy (qq 6) 40 (f 1), la cy (qq 7) 40 (f 2), la cy (qq 8) 40 (f 3), hO cy (qq 1) (qq 5) x2 (if x2 = 0 then 0 else x3), la cy (qq 5) 40 (fun _ => 0)]) H2 := hP2
              replace hD2 : va_D (va_A _ sz) ([sO cy hh a kk dd b w ee qq ik, ia cy (hh 1) 7 C, qsB cy qq, hO cy (qq 2) (qq 6) (bi 1) (si 1), hO cy (qq 3) (qq 7) (bi 2) (si 2), hO cy (qq 4) (qq 8) (bi 3) (si 3), la cy (qq 6) 40 (f 1), la cy (qq 7) 40 (f 2), la cy (qq 8) 40 (f 3), hO cy (qq 1) (qq 5) x2 (if x2 = 0 then 0 else x3), la cy (qq 5) 40 (fun _ => 0)]) := hD2
              replace hP2 := hP2.sub (ws' := [sO cy hh a kk dd b w ee qq ik, ia cy (hh 1) 7 C, qsB cy qq, hO cy (qq 1) (qq 5) x2 (if x2 = 0 then 0 else x3), hO cy (qq 2) (qq 6) (bi 1) (si 1), hO cy (qq 3) (qq 7) (bi 2) (si 2), hO cy (qq 4) (qq 8) (bi 3) (si 3), la cy (qq 5) 40 (fun _ => 0), la cy (qq 6) 40 (f 1), la cy (qq 7) 40 (f 2), la cy (qq 8) 40 (f 3)]) [0, 1, 2, 9, 3, 4, 5, 10, 6, 7, 8] rfl
              replace hD2 := hD2.sub (ws' := [sO cy hh a kk dd b w ee qq ik, ia cy (hh 1) 7 C, qsB cy qq, hO cy (qq 1) (qq 5) x2 (if x2 = 0 then 0 else x3), hO cy (qq 2) (qq 6) (bi 1) (si 1), hO cy (qq 3) (qq 7) (bi 2) (si 2), hO cy (qq 4) (qq 8) (bi 3) (si 3), la cy (qq 5) 40 (fun _ => 0), la cy (qq 6) 40 (f 1), la cy (qq 7) 40 (f 2), la cy (qq 8) 40 (f 3)]) [0, 1, 2, 9, 3, 4, 5, 10, 6, 7, 8] (by decide) rfl
              refine lv_aload_n hx hb dX6_sheet_78 rfl (lv_at hl0 0 rfl) ?_
              refine va_get (D := D) (ci := 6) (v := .ref (qq 0)) (C := RX6) (T := TX6) (N := 9) hx hb hw iX6 hown hK hP2 0 rfl rfl 7 (by decide) (hw _ kw_2_34) (fun _ h9 => h9) rfl dX6_sheet_79 ?_
              refine lv_iload_n hx hb dX6_sheet_82 rfl (lv_at hl0 1 rfl) ?_
              refine ald_q hx hb hK hP2 2 3 rfl rfl rfl 0 rfl (by first | omega | assumption) (by decide) (rfl) dX6_sheet_83 ?_
              refine va_get (D := D) (ci := 2) (v := .int (if x2 = 0 then 0 else x3)) (C := RX2) (T := TX2) (N := 3) hx hb hw iX2 hown hK hP2 3 rfl rfl 2 (by decide) (hw _ kw_2_18) (fun _ h9 => h9) rfl dX6_sheet_84 ?_
              replace hP2 : va_P D vwCl ([sO cy hh a kk dd b w ee qq ik, ia cy (hh 1) 7 C] ++ (shB cy qq (va_up bi 0 x2) (va_up si 0 (if x2 = 0 then 0 else x3)) (va_up f 0 (fun _ => 0)))) H2 := hP2
              replace hD2 : va_D (va_A _ sz) ([sO cy hh a kk dd b w ee qq ik, ia cy (hh 1) 7 C] ++ (shB cy qq (va_up bi 0 x2) (va_up si 0 (if x2 = 0 then 0 else x3)) (va_up f 0 (fun _ => 0)))) := hD2
              have hcd : cLay 0 x2 x3 = 7 := by unfold cLay; clear hx hb hml hown hr hlocks hw hsz hA hG hK hP2 hD2 hS2 hl0; grind
              have hq9 : ([sO cy hh a kk dd b w ee qq ik, ia cy (hh 1) 7 C] ++ (shB cy qq (va_up bi 0 x2) (va_up si 0 (if x2 = 0 then 0 else x3)) (va_up f 0 (fun _ => 0)))) = ([sO cy hh a kk dd b w ee qq ik, ia cy (hh 1) 7 (fnd C (cLay 0 x2 x3))] ++ (shB cy qq (va_up bi 0 x2) (va_up si 0 (if x2 = 0 then 0 else x3)) (va_up f 0 (fun _ => 0)))) := congrArg (fun z9 => [sO cy hh a kk dd b w ee qq ik, ia cy (hh 1) 7 z9] ++ (shB cy qq (va_up bi 0 x2) (va_up si 0 (if x2 = 0 then 0 else x3)) (va_up f 0 (fun _ => 0)))) (show C = (fnd C (cLay 0 x2 x3)) from fnd_o hcd)
              replace hP2 := (congrArg (fun z9 => va_P D vwCl z9 _) hq9).mp hP2
              replace hD2 := (congrArg (fun z9 => va_D _ z9) hq9).mp hD2
              clear hq9
              have hq9 : ([sO cy hh a kk dd b w ee qq ik, ia cy (hh 1) 7 (fnd C (cLay 0 x2 x3))] ++ (shB cy qq (va_up bi 0 x2) (va_up si 0 (if x2 = 0 then 0 else x3)) (va_up f 0 (fun _ => 0)))) = ([sO cy hh a kk dd b w ee qq ik, ia cy (hh 1) 7 (fnd C (cLay 0 x2 x3))] ++ (shB cy qq (if cLay 0 x2 x3 = 7 then va_up bi (bstN 0) x2 else bi) (va_up si 0 (if x2 = 0 then 0 else x3)) (va_up f 0 (fun _ => 0)))) := congrArg (fun z9 => [sO cy hh a kk dd b w ee qq ik, ia cy (hh 1) 7 (fnd C (cLay 0 x2 x3))] ++ (shB cy qq z9 (va_up si 0 (if x2 = 0 then 0 else x3)) (va_up f 0 (fun _ => 0)))) (show (va_up bi 0 x2) = (if cLay 0 x2 x3 = 7 then va_up bi (bstN 0) x2 else bi) from by rw [if_pos hcd]; simp only [hb0, hb1, hb2, hb3])
              replace hP2 := (congrArg (fun z9 => va_P D vwCl z9 _) hq9).mp hP2
              replace hD2 := (congrArg (fun z9 => va_D _ z9) hq9).mp hD2
              clear hq9
              have hq9 : ([sO cy hh a kk dd b w ee qq ik, ia cy (hh 1) 7 (fnd C (cLay 0 x2 x3))] ++ (shB cy qq (if cLay 0 x2 x3 = 7 then va_up bi (bstN 0) x2 else bi) (va_up si 0 (if x2 = 0 then 0 else x3)) (va_up f 0 (fun _ => 0)))) = ([sO cy hh a kk dd b w ee qq ik, ia cy (hh 1) 7 (fnd C (cLay 0 x2 x3))] ++ (shB cy qq (if cLay 0 x2 x3 = 7 then va_up bi (bstN 0) x2 else bi) (if cLay 0 x2 x3 = 7 then va_up si (bstN 0) (if x2 = 0 then 0 else x3) else si) (va_up f 0 (fun _ => 0)))) := congrArg (fun z9 => [sO cy hh a kk dd b w ee qq ik, ia cy (hh 1) 7 (fnd C (cLay 0 x2 x3))] ++ (shB cy qq (if cLay 0 x2 x3 = 7 then va_up bi (bstN 0) x2 else bi) z9 (va_up f 0 (fun _ => 0)))) (show (va_up si 0 (if x2 = 0 then 0 else x3)) = (if cLay 0 x2 x3 = 7 then va_up si (bstN 0) (if x2 = 0 then 0 else x3) else si) from by rw [if_pos hcd]; simp only [hb0, hb1, hb2, hb3])
              replace hP2 := (congrArg (fun z9 => va_P D vwCl z9 _) hq9).mp hP2
              replace hD2 := (congrArg (fun z9 => va_D _ z9) hq9).mp hD2
              clear hq9
              have hq9 : ([sO cy hh a kk dd b w ee qq ik, ia cy (hh 1) 7 (fnd C (cLay 0 x2 x3))] ++ (shB cy qq (if cLay 0 x2 x3 = 7 then va_up bi (bstN 0) x2 else bi) (if cLay 0 x2 x3 = 7 then va_up si (bstN 0) (if x2 = 0 then 0 else x3) else si) (va_up f 0 (fun _ => 0)))) = ([sO cy hh a kk dd b w ee qq ik, ia cy (hh 1) 7 (fnd C (cLay 0 x2 x3))] ++ (shB cy qq (if cLay 0 x2 x3 = 7 then va_up bi (bstN 0) x2 else bi) (if cLay 0 x2 x3 = 7 then va_up si (bstN 0) (if x2 = 0 then 0 else x3) else si) (if cLay 0 x2 x3 = 7 then va_up f (bstN 0) (fun _ => 0) else f))) := congrArg (fun z9 => [sO cy hh a kk dd b w ee qq ik, ia cy (hh 1) 7 (fnd C (cLay 0 x2 x3))] ++ (shB cy qq (if cLay 0 x2 x3 = 7 then va_up bi (bstN 0) x2 else bi) (if cLay 0 x2 x3 = 7 then va_up si (bstN 0) (if x2 = 0 then 0 else x3) else si) z9)) (show (va_up f 0 (fun _ => 0)) = (if cLay 0 x2 x3 = 7 then va_up f (bstN 0) (fun _ => 0) else f) from by rw [if_pos hcd]; simp only [hb0, hb1, hb2, hb3])
              replace hP2 := (congrArg (fun z9 => va_P D vwCl z9 _) hq9).mp hP2
              replace hD2 := (congrArg (fun z9 => va_D _ z9) hq9).mp hD2
              clear hq9
              refine re_i () hx hb hr hlocks hP2 hD2 hS2 dX6_sheet_87 ?_
              exact (ans_o hcd (rfl))
          · replace hP1 : va_P D vwCl ([sO cy hh a kk dd b w ee qq ik, ia cy (hh 1) 7 C, qsB cy qq, hO cy (qq 1) (qq 5) (bi 0) (si 0), hO cy (qq 2) (qq 6) (bi 1) (si 1), hO cy (qq 3) (qq 7) (bi 2) (si 2), hO cy (qq 4) (qq 8) (bi 3) (si 3), la cy (qq 5) 40 (f 0), la cy (qq 6) 40 (f 1), la cy (qq 7) 40 (f 2), la cy (qq 8) 40 (f 3)]) H1 := hP1
            replace hD1 : va_D (va_A _ sz) ([sO cy hh a kk dd b w ee qq ik, ia cy (hh 1) 7 C, qsB cy qq, hO cy (qq 1) (qq 5) (bi 0) (si 0), hO cy (qq 2) (qq 6) (bi 1) (si 1), hO cy (qq 3) (qq 7) (bi 2) (si 2), hO cy (qq 4) (qq 8) (bi 3) (si 3), la cy (qq 5) 40 (f 0), la cy (qq 6) 40 (f 1), la cy (qq 7) 40 (f 2), la cy (qq 8) 40 (f 3)]) := hD1
            refine lv_aload_n hx hb dX6_sheet_59 rfl (lv_at hl0 0 rfl) ?_
            refine va_get (D := D) (ci := 6) (v := .ref (qq 0)) (C := RX6) (T := TX6) (N := 9) hx hb hw iX6 hown hK hP1 0 rfl rfl 7 (by decide) (hw _ kw_2_34) (fun _ h9 => h9) rfl dX6_sheet_60 ?_
            refine lv_iload_n hx hb dX6_sheet_63 rfl (lv_at hl0 1 rfl) ?_
            refine ald_q hx hb hK hP1 2 3 rfl rfl rfl 1 rfl (by first | omega | assumption) (by decide) (rfl) dX6_sheet_64 ?_
            refine lv_iload_n hx hb dX6_sheet_65 rfl (lv_at hl0 2 rfl) ?_
            refine lv_iload_n hx hb dX6_sheet_66 rfl (lv_at hl0 2 rfl) ?_
            refine lv_if_ne (tgt := 74) hx hb dX6_sheet_67 (by decide) (fun c_67 => ?_) (fun c_67 => ?_)
            · refine lv_iload_n hx hb dX6_sheet_74 rfl (lv_at hl0 3 rfl) ?_
              refine tp (show (x3) = if x2 = 0 then 0 else x3 from (if_neg c_67).symm) ?_
              refine cV_v (wc := [hO cy (qq 2) (qq 6) (bi 1) (si 1), la cy (qq 6) 40 (f 1)]) (wr := [sO cy hh a kk dd b w ee qq ik, ia cy (hh 1) 7 C, qsB cy qq, hO cy (qq 1) (qq 5) (bi 0) (si 0), hO cy (qq 3) (qq 7) (bi 2) (si 2), hO cy (qq 4) (qq 8) (bi 3) (si 3), la cy (qq 5) 40 (f 0), la cy (qq 7) 40 (f 2), la cy (qq 8) 40 (f 3)]) (rest := []) hx hb hml hown hw hG hK hP1 hD1 hS1 hA hl0 kc_X2_lay kw_4_0 [.int x2, .int (if x2 = 0 then 0 else x3)] (c_X2_lay l D cy G H1.size (qq 2) (qq 6) (bi 1) (si 1) (f 1) x2 (if x2 = 0 then 0 else x3) ((hso 1 (by decide)).2.2)) [4, 8] [0, 1, 2, 3, 5, 6, 7, 9, 10] rfl rfl rfl rfl rfl 0 rfl rfl rfl rfl rfl (Nat.le_of_ble_eq_true rfl) ⟨Nat.le_of_ble_eq_true rfl, Nat.le_of_ble_eq_true rfl⟩ dX6_sheet_75 ⟨Nat.le_of_ble_eq_true rfl, Nat.le_of_ble_eq_true rfl⟩ (fun u9 H2 locs2 hu9 hP2 hD2 hS2 => ?_)
              clear hP1 hD1 hS1 locs1 H1
              replace hP2 : va_P D vwCl ([sO cy hh a kk dd b w ee qq ik, ia cy (hh 1) 7 C, qsB cy qq, hO cy (qq 1) (qq 5) (bi 0) (si 0), hO cy (qq 3) (qq 7) (bi 2) (si 2), hO cy (qq 4) (qq 8) (bi 3) (si 3), la cy (qq 5) 40 (f 0), la cy (qq 7) 40 (f 2), la cy (qq 8) 40 (f 3), hO cy (qq 2) (qq 6) x2 (if x2 = 0 then 0 else x3), la cy (qq 6) 40 (fun _ => 0)]) H2 := hP2
              replace hD2 : va_D (va_A _ sz) ([sO cy hh a kk dd b w ee qq ik, ia cy (hh 1) 7 C, qsB cy qq, hO cy (qq 1) (qq 5) (bi 0) (si 0), hO cy (qq 3) (qq 7) (bi 2) (si 2), hO cy (qq 4) (qq 8) (bi 3) (si 3), la cy (qq 5) 40 (f 0), la cy (qq 7) 40 (f 2), la cy (qq 8) 40 (f 3), hO cy (qq 2) (qq 6) x2 (if x2 = 0 then 0 else x3), la cy (qq 6) 40 (fun _ => 0)]) := hD2
              replace hP2 := hP2.sub (ws' := [sO cy hh a kk dd b w ee qq ik, ia cy (hh 1) 7 C, qsB cy qq, hO cy (qq 1) (qq 5) (bi 0) (si 0), hO cy (qq 2) (qq 6) x2 (if x2 = 0 then 0 else x3), hO cy (qq 3) (qq 7) (bi 2) (si 2), hO cy (qq 4) (qq 8) (bi 3) (si 3), la cy (qq 5) 40 (f 0), la cy (qq 6) 40 (fun _ => 0), la cy (qq 7) 40 (f 2), la cy (qq 8) 40 (f 3)]) [0, 1, 2, 3, 9, 4, 5, 6, 10, 7, 8] rfl
              replace hD2 := hD2.sub (ws' := [sO cy hh a kk dd b w ee qq ik, ia cy (hh 1) 7 C, qsB cy qq, hO cy (qq 1) (qq 5) (bi 0) (si 0), hO cy (qq 2) (qq 6) x2 (if x2 = 0 then 0 else x3), hO cy (qq 3) (qq 7) (bi 2) (si 2), hO cy (qq 4) (qq 8) (bi 3) (si 3), la cy (qq 5) 40 (f 0), la cy (qq 6) 40 (fun _ => 0), la cy (qq 7) 40 (f 2), la cy (qq 8) 40 (f 3)]) [0, 1, 2, 3, 9, 4, 5, 6, 10, 7, 8] (by decide) rfl
              refine lv_aload_n hx hb dX6_sheet_78 rfl (lv_at hl0 0 rfl) ?_
              refine va_get (D := D) (ci := 6) (v := .ref (qq 0)) (C := RX6) (T := TX6) (N := 9) hx hb hw iX6 hown hK hP2 0 rfl rfl 7 (by decide) (hw _ kw_2_34) (fun _ h9 => h9) rfl dX6_sheet_79 ?_
              refine lv_iload_n hx hb dX6_sheet_82 rfl (lv_at hl0 1 rfl) ?_
              refine ald_q hx hb hK hP2 2 3 rfl rfl rfl 1 rfl (by first | omega | assumption) (by decide) (rfl) dX6_sheet_83 ?_
              refine va_get (D := D) (ci := 2) (v := .int (if x2 = 0 then 0 else x3)) (C := RX2) (T := TX2) (N := 3) hx hb hw iX2 hown hK hP2 4 rfl rfl 2 (by decide) (hw _ kw_2_18) (fun _ h9 => h9) rfl dX6_sheet_84 ?_
              replace hP2 : va_P D vwCl ([sO cy hh a kk dd b w ee qq ik, ia cy (hh 1) 7 C] ++ (shB cy qq (va_up bi 1 x2) (va_up si 1 (if x2 = 0 then 0 else x3)) (va_up f 1 (fun _ => 0)))) H2 := hP2
              replace hD2 : va_D (va_A _ sz) ([sO cy hh a kk dd b w ee qq ik, ia cy (hh 1) 7 C] ++ (shB cy qq (va_up bi 1 x2) (va_up si 1 (if x2 = 0 then 0 else x3)) (va_up f 1 (fun _ => 0)))) := hD2
              have hcd : cLay 1 x2 x3 = 7 := by unfold cLay; clear hx hb hml hown hr hlocks hw hsz hA hG hK hP2 hD2 hS2 hl0; grind
              have hq9 : ([sO cy hh a kk dd b w ee qq ik, ia cy (hh 1) 7 C] ++ (shB cy qq (va_up bi 1 x2) (va_up si 1 (if x2 = 0 then 0 else x3)) (va_up f 1 (fun _ => 0)))) = ([sO cy hh a kk dd b w ee qq ik, ia cy (hh 1) 7 (fnd C (cLay 1 x2 x3))] ++ (shB cy qq (va_up bi 1 x2) (va_up si 1 (if x2 = 0 then 0 else x3)) (va_up f 1 (fun _ => 0)))) := congrArg (fun z9 => [sO cy hh a kk dd b w ee qq ik, ia cy (hh 1) 7 z9] ++ (shB cy qq (va_up bi 1 x2) (va_up si 1 (if x2 = 0 then 0 else x3)) (va_up f 1 (fun _ => 0)))) (show C = (fnd C (cLay 1 x2 x3)) from fnd_o hcd)
              replace hP2 := (congrArg (fun z9 => va_P D vwCl z9 _) hq9).mp hP2
              replace hD2 := (congrArg (fun z9 => va_D _ z9) hq9).mp hD2
              clear hq9
              have hq9 : ([sO cy hh a kk dd b w ee qq ik, ia cy (hh 1) 7 (fnd C (cLay 1 x2 x3))] ++ (shB cy qq (va_up bi 1 x2) (va_up si 1 (if x2 = 0 then 0 else x3)) (va_up f 1 (fun _ => 0)))) = ([sO cy hh a kk dd b w ee qq ik, ia cy (hh 1) 7 (fnd C (cLay 1 x2 x3))] ++ (shB cy qq (if cLay 1 x2 x3 = 7 then va_up bi (bstN 1) x2 else bi) (va_up si 1 (if x2 = 0 then 0 else x3)) (va_up f 1 (fun _ => 0)))) := congrArg (fun z9 => [sO cy hh a kk dd b w ee qq ik, ia cy (hh 1) 7 (fnd C (cLay 1 x2 x3))] ++ (shB cy qq z9 (va_up si 1 (if x2 = 0 then 0 else x3)) (va_up f 1 (fun _ => 0)))) (show (va_up bi 1 x2) = (if cLay 1 x2 x3 = 7 then va_up bi (bstN 1) x2 else bi) from by rw [if_pos hcd]; simp only [hb0, hb1, hb2, hb3])
              replace hP2 := (congrArg (fun z9 => va_P D vwCl z9 _) hq9).mp hP2
              replace hD2 := (congrArg (fun z9 => va_D _ z9) hq9).mp hD2
              clear hq9
              have hq9 : ([sO cy hh a kk dd b w ee qq ik, ia cy (hh 1) 7 (fnd C (cLay 1 x2 x3))] ++ (shB cy qq (if cLay 1 x2 x3 = 7 then va_up bi (bstN 1) x2 else bi) (va_up si 1 (if x2 = 0 then 0 else x3)) (va_up f 1 (fun _ => 0)))) = ([sO cy hh a kk dd b w ee qq ik, ia cy (hh 1) 7 (fnd C (cLay 1 x2 x3))] ++ (shB cy qq (if cLay 1 x2 x3 = 7 then va_up bi (bstN 1) x2 else bi) (if cLay 1 x2 x3 = 7 then va_up si (bstN 1) (if x2 = 0 then 0 else x3) else si) (va_up f 1 (fun _ => 0)))) := congrArg (fun z9 => [sO cy hh a kk dd b w ee qq ik, ia cy (hh 1) 7 (fnd C (cLay 1 x2 x3))] ++ (shB cy qq (if cLay 1 x2 x3 = 7 then va_up bi (bstN 1) x2 else bi) z9 (va_up f 1 (fun _ => 0)))) (show (va_up si 1 (if x2 = 0 then 0 else x3)) = (if cLay 1 x2 x3 = 7 then va_up si (bstN 1) (if x2 = 0 then 0 else x3) else si) from by rw [if_pos hcd]; simp only [hb0, hb1, hb2, hb3])
              replace hP2 := (congrArg (fun z9 => va_P D vwCl z9 _) hq9).mp hP2
              replace hD2 := (congrArg (fun z9 => va_D _ z9) hq9).mp hD2
              clear hq9
              have hq9 : ([sO cy hh a kk dd b w ee qq ik, ia cy (hh 1) 7 (fnd C (cLay 1 x2 x3))] ++ (shB cy qq (if cLay 1 x2 x3 = 7 then va_up bi (bstN 1) x2 else bi) (if cLay 1 x2 x3 = 7 then va_up si (bstN 1) (if x2 = 0 then 0 else x3) else si) (va_up f 1 (fun _ => 0)))) = ([sO cy hh a kk dd b w ee qq ik, ia cy (hh 1) 7 (fnd C (cLay 1 x2 x3))] ++ (shB cy qq (if cLay 1 x2 x3 = 7 then va_up bi (bstN 1) x2 else bi) (if cLay 1 x2 x3 = 7 then va_up si (bstN 1) (if x2 = 0 then 0 else x3) else si) (if cLay 1 x2 x3 = 7 then va_up f (bstN 1) (fun _ => 0) else f))) := congrArg (fun z9 => [sO cy hh a kk dd b w ee qq ik, ia cy (hh 1) 7 (fnd C (cLay 1 x2 x3))] ++ (shB cy qq (if cLay 1 x2 x3 = 7 then va_up bi (bstN 1) x2 else bi) (if cLay 1 x2 x3 = 7 then va_up si (bstN 1) (if x2 = 0 then 0 else x3) else si) z9)) (show (va_up f 1 (fun _ => 0)) = (if cLay 1 x2 x3 = 7 then va_up f (bstN 1) (fun _ => 0) else f) from by rw [if_pos hcd]; simp only [hb0, hb1, hb2, hb3])
              replace hP2 := (congrArg (fun z9 => va_P D vwCl z9 _) hq9).mp hP2
              replace hD2 := (congrArg (fun z9 => va_D _ z9) hq9).mp hD2
              clear hq9
              refine re_i () hx hb hr hlocks hP2 hD2 hS2 dX6_sheet_87 ?_
              exact (ans_o hcd (rfl))
            · refine lv_iconst (v := 0) hx hb dX6_sheet_70 (by decide) ?_
              refine lv_goto (tgt := 75) hx hb dX6_sheet_71 (by decide) ?_
              refine tp (show (0) = if x2 = 0 then 0 else x3 from (if_pos c_67).symm) ?_
              refine cV_v (wc := [hO cy (qq 2) (qq 6) (bi 1) (si 1), la cy (qq 6) 40 (f 1)]) (wr := [sO cy hh a kk dd b w ee qq ik, ia cy (hh 1) 7 C, qsB cy qq, hO cy (qq 1) (qq 5) (bi 0) (si 0), hO cy (qq 3) (qq 7) (bi 2) (si 2), hO cy (qq 4) (qq 8) (bi 3) (si 3), la cy (qq 5) 40 (f 0), la cy (qq 7) 40 (f 2), la cy (qq 8) 40 (f 3)]) (rest := []) hx hb hml hown hw hG hK hP1 hD1 hS1 hA hl0 kc_X2_lay kw_4_0 [.int x2, .int (if x2 = 0 then 0 else x3)] (c_X2_lay l D cy G H1.size (qq 2) (qq 6) (bi 1) (si 1) (f 1) x2 (if x2 = 0 then 0 else x3) ((hso 1 (by decide)).2.2)) [4, 8] [0, 1, 2, 3, 5, 6, 7, 9, 10] rfl rfl rfl rfl rfl 0 rfl rfl rfl rfl rfl (Nat.le_of_ble_eq_true rfl) ⟨Nat.le_of_ble_eq_true rfl, Nat.le_of_ble_eq_true rfl⟩ dX6_sheet_75 ⟨Nat.le_of_ble_eq_true rfl, Nat.le_of_ble_eq_true rfl⟩ (fun u9 H2 locs2 hu9 hP2 hD2 hS2 => ?_)
              clear hP1 hD1 hS1 locs1 H1
              replace hP2 : va_P D vwCl ([sO cy hh a kk dd b w ee qq ik, ia cy (hh 1) 7 C, qsB cy qq, hO cy (qq 1) (qq 5) (bi 0) (si 0), hO cy (qq 3) (qq 7) (bi 2) (si 2), hO cy (qq 4) (qq 8) (bi 3) (si 3), la cy (qq 5) 40 (f 0), la cy (qq 7) 40 (f 2), la cy (qq 8) 40 (f 3), hO cy (qq 2) (qq 6) x2 (if x2 = 0 then 0 else x3), la cy (qq 6) 40 (fun _ => 0)]) H2 := hP2
              replace hD2 : va_D (va_A _ sz) ([sO cy hh a kk dd b w ee qq ik, ia cy (hh 1) 7 C, qsB cy qq, hO cy (qq 1) (qq 5) (bi 0) (si 0), hO cy (qq 3) (qq 7) (bi 2) (si 2), hO cy (qq 4) (qq 8) (bi 3) (si 3), la cy (qq 5) 40 (f 0), la cy (qq 7) 40 (f 2), la cy (qq 8) 40 (f 3), hO cy (qq 2) (qq 6) x2 (if x2 = 0 then 0 else x3), la cy (qq 6) 40 (fun _ => 0)]) := hD2
              replace hP2 := hP2.sub (ws' := [sO cy hh a kk dd b w ee qq ik, ia cy (hh 1) 7 C, qsB cy qq, hO cy (qq 1) (qq 5) (bi 0) (si 0), hO cy (qq 2) (qq 6) x2 (if x2 = 0 then 0 else x3), hO cy (qq 3) (qq 7) (bi 2) (si 2), hO cy (qq 4) (qq 8) (bi 3) (si 3), la cy (qq 5) 40 (f 0), la cy (qq 6) 40 (fun _ => 0), la cy (qq 7) 40 (f 2), la cy (qq 8) 40 (f 3)]) [0, 1, 2, 3, 9, 4, 5, 6, 10, 7, 8] rfl
              replace hD2 := hD2.sub (ws' := [sO cy hh a kk dd b w ee qq ik, ia cy (hh 1) 7 C, qsB cy qq, hO cy (qq 1) (qq 5) (bi 0) (si 0), hO cy (qq 2) (qq 6) x2 (if x2 = 0 then 0 else x3), hO cy (qq 3) (qq 7) (bi 2) (si 2), hO cy (qq 4) (qq 8) (bi 3) (si 3), la cy (qq 5) 40 (f 0), la cy (qq 6) 40 (fun _ => 0), la cy (qq 7) 40 (f 2), la cy (qq 8) 40 (f 3)]) [0, 1, 2, 3, 9, 4, 5, 6, 10, 7, 8] (by decide) rfl
              refine lv_aload_n hx hb dX6_sheet_78 rfl (lv_at hl0 0 rfl) ?_
              refine va_get (D := D) (ci := 6) (v := .ref (qq 0)) (C := RX6) (T := TX6) (N := 9) hx hb hw iX6 hown hK hP2 0 rfl rfl 7 (by decide) (hw _ kw_2_34) (fun _ h9 => h9) rfl dX6_sheet_79 ?_
              refine lv_iload_n hx hb dX6_sheet_82 rfl (lv_at hl0 1 rfl) ?_
              refine ald_q hx hb hK hP2 2 3 rfl rfl rfl 1 rfl (by first | omega | assumption) (by decide) (rfl) dX6_sheet_83 ?_
              refine va_get (D := D) (ci := 2) (v := .int (if x2 = 0 then 0 else x3)) (C := RX2) (T := TX2) (N := 3) hx hb hw iX2 hown hK hP2 4 rfl rfl 2 (by decide) (hw _ kw_2_18) (fun _ h9 => h9) rfl dX6_sheet_84 ?_
              replace hP2 : va_P D vwCl ([sO cy hh a kk dd b w ee qq ik, ia cy (hh 1) 7 C] ++ (shB cy qq (va_up bi 1 x2) (va_up si 1 (if x2 = 0 then 0 else x3)) (va_up f 1 (fun _ => 0)))) H2 := hP2
              replace hD2 : va_D (va_A _ sz) ([sO cy hh a kk dd b w ee qq ik, ia cy (hh 1) 7 C] ++ (shB cy qq (va_up bi 1 x2) (va_up si 1 (if x2 = 0 then 0 else x3)) (va_up f 1 (fun _ => 0)))) := hD2
              have hcd : cLay 1 x2 x3 = 7 := by unfold cLay; clear hx hb hml hown hr hlocks hw hsz hA hG hK hP2 hD2 hS2 hl0; grind
              have hq9 : ([sO cy hh a kk dd b w ee qq ik, ia cy (hh 1) 7 C] ++ (shB cy qq (va_up bi 1 x2) (va_up si 1 (if x2 = 0 then 0 else x3)) (va_up f 1 (fun _ => 0)))) = ([sO cy hh a kk dd b w ee qq ik, ia cy (hh 1) 7 (fnd C (cLay 1 x2 x3))] ++ (shB cy qq (va_up bi 1 x2) (va_up si 1 (if x2 = 0 then 0 else x3)) (va_up f 1 (fun _ => 0)))) := congrArg (fun z9 => [sO cy hh a kk dd b w ee qq ik, ia cy (hh 1) 7 z9] ++ (shB cy qq (va_up bi 1 x2) (va_up si 1 (if x2 = 0 then 0 else x3)) (va_up f 1 (fun _ => 0)))) (show C = (fnd C (cLay 1 x2 x3)) from fnd_o hcd)
              replace hP2 := (congrArg (fun z9 => va_P D vwCl z9 _) hq9).mp hP2
              replace hD2 := (congrArg (fun z9 => va_D _ z9) hq9).mp hD2
              clear hq9
              have hq9 : ([sO cy hh a kk dd b w ee qq ik, ia cy (hh 1) 7 (fnd C (cLay 1 x2 x3))] ++ (shB cy qq (va_up bi 1 x2) (va_up si 1 (if x2 = 0 then 0 else x3)) (va_up f 1 (fun _ => 0)))) = ([sO cy hh a kk dd b w ee qq ik, ia cy (hh 1) 7 (fnd C (cLay 1 x2 x3))] ++ (shB cy qq (if cLay 1 x2 x3 = 7 then va_up bi (bstN 1) x2 else bi) (va_up si 1 (if x2 = 0 then 0 else x3)) (va_up f 1 (fun _ => 0)))) := congrArg (fun z9 => [sO cy hh a kk dd b w ee qq ik, ia cy (hh 1) 7 (fnd C (cLay 1 x2 x3))] ++ (shB cy qq z9 (va_up si 1 (if x2 = 0 then 0 else x3)) (va_up f 1 (fun _ => 0)))) (show (va_up bi 1 x2) = (if cLay 1 x2 x3 = 7 then va_up bi (bstN 1) x2 else bi) from by rw [if_pos hcd]; simp only [hb0, hb1, hb2, hb3])
              replace hP2 := (congrArg (fun z9 => va_P D vwCl z9 _) hq9).mp hP2
              replace hD2 := (congrArg (fun z9 => va_D _ z9) hq9).mp hD2
              clear hq9
              have hq9 : ([sO cy hh a kk dd b w ee qq ik, ia cy (hh 1) 7 (fnd C (cLay 1 x2 x3))] ++ (shB cy qq (if cLay 1 x2 x3 = 7 then va_up bi (bstN 1) x2 else bi) (va_up si 1 (if x2 = 0 then 0 else x3)) (va_up f 1 (fun _ => 0)))) = ([sO cy hh a kk dd b w ee qq ik, ia cy (hh 1) 7 (fnd C (cLay 1 x2 x3))] ++ (shB cy qq (if cLay 1 x2 x3 = 7 then va_up bi (bstN 1) x2 else bi) (if cLay 1 x2 x3 = 7 then va_up si (bstN 1) (if x2 = 0 then 0 else x3) else si) (va_up f 1 (fun _ => 0)))) := congrArg (fun z9 => [sO cy hh a kk dd b w ee qq ik, ia cy (hh 1) 7 (fnd C (cLay 1 x2 x3))] ++ (shB cy qq (if cLay 1 x2 x3 = 7 then va_up bi (bstN 1) x2 else bi) z9 (va_up f 1 (fun _ => 0)))) (show (va_up si 1 (if x2 = 0 then 0 else x3)) = (if cLay 1 x2 x3 = 7 then va_up si (bstN 1) (if x2 = 0 then 0 else x3) else si) from by rw [if_pos hcd]; simp only [hb0, hb1, hb2, hb3])
              replace hP2 := (congrArg (fun z9 => va_P D vwCl z9 _) hq9).mp hP2
              replace hD2 := (congrArg (fun z9 => va_D _ z9) hq9).mp hD2
              clear hq9
              have hq9 : ([sO cy hh a kk dd b w ee qq ik, ia cy (hh 1) 7 (fnd C (cLay 1 x2 x3))] ++ (shB cy qq (if cLay 1 x2 x3 = 7 then va_up bi (bstN 1) x2 else bi) (if cLay 1 x2 x3 = 7 then va_up si (bstN 1) (if x2 = 0 then 0 else x3) else si) (va_up f 1 (fun _ => 0)))) = ([sO cy hh a kk dd b w ee qq ik, ia cy (hh 1) 7 (fnd C (cLay 1 x2 x3))] ++ (shB cy qq (if cLay 1 x2 x3 = 7 then va_up bi (bstN 1) x2 else bi) (if cLay 1 x2 x3 = 7 then va_up si (bstN 1) (if x2 = 0 then 0 else x3) else si) (if cLay 1 x2 x3 = 7 then va_up f (bstN 1) (fun _ => 0) else f))) := congrArg (fun z9 => [sO cy hh a kk dd b w ee qq ik, ia cy (hh 1) 7 (fnd C (cLay 1 x2 x3))] ++ (shB cy qq (if cLay 1 x2 x3 = 7 then va_up bi (bstN 1) x2 else bi) (if cLay 1 x2 x3 = 7 then va_up si (bstN 1) (if x2 = 0 then 0 else x3) else si) z9)) (show (va_up f 1 (fun _ => 0)) = (if cLay 1 x2 x3 = 7 then va_up f (bstN 1) (fun _ => 0) else f) from by rw [if_pos hcd]; simp only [hb0, hb1, hb2, hb3])
              replace hP2 := (congrArg (fun z9 => va_P D vwCl z9 _) hq9).mp hP2
              replace hD2 := (congrArg (fun z9 => va_D _ z9) hq9).mp hD2
              clear hq9
              refine re_i () hx hb hr hlocks hP2 hD2 hS2 dX6_sheet_87 ?_
              exact (ans_o hcd (rfl))
          · replace hP1 : va_P D vwCl ([sO cy hh a kk dd b w ee qq ik, ia cy (hh 1) 7 C, qsB cy qq, hO cy (qq 1) (qq 5) (bi 0) (si 0), hO cy (qq 2) (qq 6) (bi 1) (si 1), hO cy (qq 3) (qq 7) (bi 2) (si 2), hO cy (qq 4) (qq 8) (bi 3) (si 3), la cy (qq 5) 40 (f 0), la cy (qq 6) 40 (f 1), la cy (qq 7) 40 (f 2), la cy (qq 8) 40 (f 3)]) H1 := hP1
            replace hD1 : va_D (va_A _ sz) ([sO cy hh a kk dd b w ee qq ik, ia cy (hh 1) 7 C, qsB cy qq, hO cy (qq 1) (qq 5) (bi 0) (si 0), hO cy (qq 2) (qq 6) (bi 1) (si 1), hO cy (qq 3) (qq 7) (bi 2) (si 2), hO cy (qq 4) (qq 8) (bi 3) (si 3), la cy (qq 5) 40 (f 0), la cy (qq 6) 40 (f 1), la cy (qq 7) 40 (f 2), la cy (qq 8) 40 (f 3)]) := hD1
            refine lv_aload_n hx hb dX6_sheet_59 rfl (lv_at hl0 0 rfl) ?_
            refine va_get (D := D) (ci := 6) (v := .ref (qq 0)) (C := RX6) (T := TX6) (N := 9) hx hb hw iX6 hown hK hP1 0 rfl rfl 7 (by decide) (hw _ kw_2_34) (fun _ h9 => h9) rfl dX6_sheet_60 ?_
            refine lv_iload_n hx hb dX6_sheet_63 rfl (lv_at hl0 1 rfl) ?_
            refine ald_q hx hb hK hP1 2 3 rfl rfl rfl 2 rfl (by first | omega | assumption) (by decide) (rfl) dX6_sheet_64 ?_
            refine lv_iload_n hx hb dX6_sheet_65 rfl (lv_at hl0 2 rfl) ?_
            refine lv_iload_n hx hb dX6_sheet_66 rfl (lv_at hl0 2 rfl) ?_
            refine lv_if_ne (tgt := 74) hx hb dX6_sheet_67 (by decide) (fun c_67 => ?_) (fun c_67 => ?_)
            · refine lv_iload_n hx hb dX6_sheet_74 rfl (lv_at hl0 3 rfl) ?_
              refine tp (show (x3) = if x2 = 0 then 0 else x3 from (if_neg c_67).symm) ?_
              refine cV_v (wc := [hO cy (qq 3) (qq 7) (bi 2) (si 2), la cy (qq 7) 40 (f 2)]) (wr := [sO cy hh a kk dd b w ee qq ik, ia cy (hh 1) 7 C, qsB cy qq, hO cy (qq 1) (qq 5) (bi 0) (si 0), hO cy (qq 2) (qq 6) (bi 1) (si 1), hO cy (qq 4) (qq 8) (bi 3) (si 3), la cy (qq 5) 40 (f 0), la cy (qq 6) 40 (f 1), la cy (qq 8) 40 (f 3)]) (rest := []) hx hb hml hown hw hG hK hP1 hD1 hS1 hA hl0 kc_X2_lay kw_4_0 [.int x2, .int (if x2 = 0 then 0 else x3)] (c_X2_lay l D cy G H1.size (qq 3) (qq 7) (bi 2) (si 2) (f 2) x2 (if x2 = 0 then 0 else x3) ((hso 2 (by decide)).2.2)) [5, 9] [0, 1, 2, 3, 4, 6, 7, 8, 10] rfl rfl rfl rfl rfl 0 rfl rfl rfl rfl rfl (Nat.le_of_ble_eq_true rfl) ⟨Nat.le_of_ble_eq_true rfl, Nat.le_of_ble_eq_true rfl⟩ dX6_sheet_75 ⟨Nat.le_of_ble_eq_true rfl, Nat.le_of_ble_eq_true rfl⟩ (fun u9 H2 locs2 hu9 hP2 hD2 hS2 => ?_)
              clear hP1 hD1 hS1 locs1 H1
              replace hP2 : va_P D vwCl ([sO cy hh a kk dd b w ee qq ik, ia cy (hh 1) 7 C, qsB cy qq, hO cy (qq 1) (qq 5) (bi 0) (si 0), hO cy (qq 2) (qq 6) (bi 1) (si 1), hO cy (qq 4) (qq 8) (bi 3) (si 3), la cy (qq 5) 40 (f 0), la cy (qq 6) 40 (f 1), la cy (qq 8) 40 (f 3), hO cy (qq 3) (qq 7) x2 (if x2 = 0 then 0 else x3), la cy (qq 7) 40 (fun _ => 0)]) H2 := hP2
              replace hD2 : va_D (va_A _ sz) ([sO cy hh a kk dd b w ee qq ik, ia cy (hh 1) 7 C, qsB cy qq, hO cy (qq 1) (qq 5) (bi 0) (si 0), hO cy (qq 2) (qq 6) (bi 1) (si 1), hO cy (qq 4) (qq 8) (bi 3) (si 3), la cy (qq 5) 40 (f 0), la cy (qq 6) 40 (f 1), la cy (qq 8) 40 (f 3), hO cy (qq 3) (qq 7) x2 (if x2 = 0 then 0 else x3), la cy (qq 7) 40 (fun _ => 0)]) := hD2
              replace hP2 := hP2.sub (ws' := [sO cy hh a kk dd b w ee qq ik, ia cy (hh 1) 7 C, qsB cy qq, hO cy (qq 1) (qq 5) (bi 0) (si 0), hO cy (qq 2) (qq 6) (bi 1) (si 1), hO cy (qq 3) (qq 7) x2 (if x2 = 0 then 0 else x3), hO cy (qq 4) (qq 8) (bi 3) (si 3), la cy (qq 5) 40 (f 0), la cy (qq 6) 40 (f 1), la cy (qq 7) 40 (fun _ => 0), la cy (qq 8) 40 (f 3)]) [0, 1, 2, 3, 4, 9, 5, 6, 7, 10, 8] rfl
              replace hD2 := hD2.sub (ws' := [sO cy hh a kk dd b w ee qq ik, ia cy (hh 1) 7 C, qsB cy qq, hO cy (qq 1) (qq 5) (bi 0) (si 0), hO cy (qq 2) (qq 6) (bi 1) (si 1), hO cy (qq 3) (qq 7) x2 (if x2 = 0 then 0 else x3), hO cy (qq 4) (qq 8) (bi 3) (si 3), la cy (qq 5) 40 (f 0), la cy (qq 6) 40 (f 1), la cy (qq 7) 40 (fun _ => 0), la cy (qq 8) 40 (f 3)]) [0, 1, 2, 3, 4, 9, 5, 6, 7, 10, 8] (by decide) rfl
              refine lv_aload_n hx hb dX6_sheet_78 rfl (lv_at hl0 0 rfl) ?_
              refine va_get (D := D) (ci := 6) (v := .ref (qq 0)) (C := RX6) (T := TX6) (N := 9) hx hb hw iX6 hown hK hP2 0 rfl rfl 7 (by decide) (hw _ kw_2_34) (fun _ h9 => h9) rfl dX6_sheet_79 ?_
              refine lv_iload_n hx hb dX6_sheet_82 rfl (lv_at hl0 1 rfl) ?_
              refine ald_q hx hb hK hP2 2 3 rfl rfl rfl 2 rfl (by first | omega | assumption) (by decide) (rfl) dX6_sheet_83 ?_
              refine va_get (D := D) (ci := 2) (v := .int (if x2 = 0 then 0 else x3)) (C := RX2) (T := TX2) (N := 3) hx hb hw iX2 hown hK hP2 5 rfl rfl 2 (by decide) (hw _ kw_2_18) (fun _ h9 => h9) rfl dX6_sheet_84 ?_
              replace hP2 : va_P D vwCl ([sO cy hh a kk dd b w ee qq ik, ia cy (hh 1) 7 C] ++ (shB cy qq (va_up bi 2 x2) (va_up si 2 (if x2 = 0 then 0 else x3)) (va_up f 2 (fun _ => 0)))) H2 := hP2
              replace hD2 : va_D (va_A _ sz) ([sO cy hh a kk dd b w ee qq ik, ia cy (hh 1) 7 C] ++ (shB cy qq (va_up bi 2 x2) (va_up si 2 (if x2 = 0 then 0 else x3)) (va_up f 2 (fun _ => 0)))) := hD2
              have hcd : cLay 2 x2 x3 = 7 := by unfold cLay; clear hx hb hml hown hr hlocks hw hsz hA hG hK hP2 hD2 hS2 hl0; grind
              have hq9 : ([sO cy hh a kk dd b w ee qq ik, ia cy (hh 1) 7 C] ++ (shB cy qq (va_up bi 2 x2) (va_up si 2 (if x2 = 0 then 0 else x3)) (va_up f 2 (fun _ => 0)))) = ([sO cy hh a kk dd b w ee qq ik, ia cy (hh 1) 7 (fnd C (cLay 2 x2 x3))] ++ (shB cy qq (va_up bi 2 x2) (va_up si 2 (if x2 = 0 then 0 else x3)) (va_up f 2 (fun _ => 0)))) := congrArg (fun z9 => [sO cy hh a kk dd b w ee qq ik, ia cy (hh 1) 7 z9] ++ (shB cy qq (va_up bi 2 x2) (va_up si 2 (if x2 = 0 then 0 else x3)) (va_up f 2 (fun _ => 0)))) (show C = (fnd C (cLay 2 x2 x3)) from fnd_o hcd)
              replace hP2 := (congrArg (fun z9 => va_P D vwCl z9 _) hq9).mp hP2
              replace hD2 := (congrArg (fun z9 => va_D _ z9) hq9).mp hD2
              clear hq9
              have hq9 : ([sO cy hh a kk dd b w ee qq ik, ia cy (hh 1) 7 (fnd C (cLay 2 x2 x3))] ++ (shB cy qq (va_up bi 2 x2) (va_up si 2 (if x2 = 0 then 0 else x3)) (va_up f 2 (fun _ => 0)))) = ([sO cy hh a kk dd b w ee qq ik, ia cy (hh 1) 7 (fnd C (cLay 2 x2 x3))] ++ (shB cy qq (if cLay 2 x2 x3 = 7 then va_up bi (bstN 2) x2 else bi) (va_up si 2 (if x2 = 0 then 0 else x3)) (va_up f 2 (fun _ => 0)))) := congrArg (fun z9 => [sO cy hh a kk dd b w ee qq ik, ia cy (hh 1) 7 (fnd C (cLay 2 x2 x3))] ++ (shB cy qq z9 (va_up si 2 (if x2 = 0 then 0 else x3)) (va_up f 2 (fun _ => 0)))) (show (va_up bi 2 x2) = (if cLay 2 x2 x3 = 7 then va_up bi (bstN 2) x2 else bi) from by rw [if_pos hcd]; simp only [hb0, hb1, hb2, hb3])
              replace hP2 := (congrArg (fun z9 => va_P D vwCl z9 _) hq9).mp hP2
              replace hD2 := (congrArg (fun z9 => va_D _ z9) hq9).mp hD2
              clear hq9
              have hq9 : ([sO cy hh a kk dd b w ee qq ik, ia cy (hh 1) 7 (fnd C (cLay 2 x2 x3))] ++ (shB cy qq (if cLay 2 x2 x3 = 7 then va_up bi (bstN 2) x2 else bi) (va_up si 2 (if x2 = 0 then 0 else x3)) (va_up f 2 (fun _ => 0)))) = ([sO cy hh a kk dd b w ee qq ik, ia cy (hh 1) 7 (fnd C (cLay 2 x2 x3))] ++ (shB cy qq (if cLay 2 x2 x3 = 7 then va_up bi (bstN 2) x2 else bi) (if cLay 2 x2 x3 = 7 then va_up si (bstN 2) (if x2 = 0 then 0 else x3) else si) (va_up f 2 (fun _ => 0)))) := congrArg (fun z9 => [sO cy hh a kk dd b w ee qq ik, ia cy (hh 1) 7 (fnd C (cLay 2 x2 x3))] ++ (shB cy qq (if cLay 2 x2 x3 = 7 then va_up bi (bstN 2) x2 else bi) z9 (va_up f 2 (fun _ => 0)))) (show (va_up si 2 (if x2 = 0 then 0 else x3)) = (if cLay 2 x2 x3 = 7 then va_up si (bstN 2) (if x2 = 0 then 0 else x3) else si) from by rw [if_pos hcd]; simp only [hb0, hb1, hb2, hb3])
              replace hP2 := (congrArg (fun z9 => va_P D vwCl z9 _) hq9).mp hP2
              replace hD2 := (congrArg (fun z9 => va_D _ z9) hq9).mp hD2
              clear hq9
              have hq9 : ([sO cy hh a kk dd b w ee qq ik, ia cy (hh 1) 7 (fnd C (cLay 2 x2 x3))] ++ (shB cy qq (if cLay 2 x2 x3 = 7 then va_up bi (bstN 2) x2 else bi) (if cLay 2 x2 x3 = 7 then va_up si (bstN 2) (if x2 = 0 then 0 else x3) else si) (va_up f 2 (fun _ => 0)))) = ([sO cy hh a kk dd b w ee qq ik, ia cy (hh 1) 7 (fnd C (cLay 2 x2 x3))] ++ (shB cy qq (if cLay 2 x2 x3 = 7 then va_up bi (bstN 2) x2 else bi) (if cLay 2 x2 x3 = 7 then va_up si (bstN 2) (if x2 = 0 then 0 else x3) else si) (if cLay 2 x2 x3 = 7 then va_up f (bstN 2) (fun _ => 0) else f))) := congrArg (fun z9 => [sO cy hh a kk dd b w ee qq ik, ia cy (hh 1) 7 (fnd C (cLay 2 x2 x3))] ++ (shB cy qq (if cLay 2 x2 x3 = 7 then va_up bi (bstN 2) x2 else bi) (if cLay 2 x2 x3 = 7 then va_up si (bstN 2) (if x2 = 0 then 0 else x3) else si) z9)) (show (va_up f 2 (fun _ => 0)) = (if cLay 2 x2 x3 = 7 then va_up f (bstN 2) (fun _ => 0) else f) from by rw [if_pos hcd]; simp only [hb0, hb1, hb2, hb3])
              replace hP2 := (congrArg (fun z9 => va_P D vwCl z9 _) hq9).mp hP2
              replace hD2 := (congrArg (fun z9 => va_D _ z9) hq9).mp hD2
              clear hq9
              refine re_i () hx hb hr hlocks hP2 hD2 hS2 dX6_sheet_87 ?_
              exact (ans_o hcd (rfl))
            · refine lv_iconst (v := 0) hx hb dX6_sheet_70 (by decide) ?_
              refine lv_goto (tgt := 75) hx hb dX6_sheet_71 (by decide) ?_
              refine tp (show (0) = if x2 = 0 then 0 else x3 from (if_pos c_67).symm) ?_
              refine cV_v (wc := [hO cy (qq 3) (qq 7) (bi 2) (si 2), la cy (qq 7) 40 (f 2)]) (wr := [sO cy hh a kk dd b w ee qq ik, ia cy (hh 1) 7 C, qsB cy qq, hO cy (qq 1) (qq 5) (bi 0) (si 0), hO cy (qq 2) (qq 6) (bi 1) (si 1), hO cy (qq 4) (qq 8) (bi 3) (si 3), la cy (qq 5) 40 (f 0), la cy (qq 6) 40 (f 1), la cy (qq 8) 40 (f 3)]) (rest := []) hx hb hml hown hw hG hK hP1 hD1 hS1 hA hl0 kc_X2_lay kw_4_0 [.int x2, .int (if x2 = 0 then 0 else x3)] (c_X2_lay l D cy G H1.size (qq 3) (qq 7) (bi 2) (si 2) (f 2) x2 (if x2 = 0 then 0 else x3) ((hso 2 (by decide)).2.2)) [5, 9] [0, 1, 2, 3, 4, 6, 7, 8, 10] rfl rfl rfl rfl rfl 0 rfl rfl rfl rfl rfl (Nat.le_of_ble_eq_true rfl) ⟨Nat.le_of_ble_eq_true rfl, Nat.le_of_ble_eq_true rfl⟩ dX6_sheet_75 ⟨Nat.le_of_ble_eq_true rfl, Nat.le_of_ble_eq_true rfl⟩ (fun u9 H2 locs2 hu9 hP2 hD2 hS2 => ?_)
              clear hP1 hD1 hS1 locs1 H1
              replace hP2 : va_P D vwCl ([sO cy hh a kk dd b w ee qq ik, ia cy (hh 1) 7 C, qsB cy qq, hO cy (qq 1) (qq 5) (bi 0) (si 0), hO cy (qq 2) (qq 6) (bi 1) (si 1), hO cy (qq 4) (qq 8) (bi 3) (si 3), la cy (qq 5) 40 (f 0), la cy (qq 6) 40 (f 1), la cy (qq 8) 40 (f 3), hO cy (qq 3) (qq 7) x2 (if x2 = 0 then 0 else x3), la cy (qq 7) 40 (fun _ => 0)]) H2 := hP2
              replace hD2 : va_D (va_A _ sz) ([sO cy hh a kk dd b w ee qq ik, ia cy (hh 1) 7 C, qsB cy qq, hO cy (qq 1) (qq 5) (bi 0) (si 0), hO cy (qq 2) (qq 6) (bi 1) (si 1), hO cy (qq 4) (qq 8) (bi 3) (si 3), la cy (qq 5) 40 (f 0), la cy (qq 6) 40 (f 1), la cy (qq 8) 40 (f 3), hO cy (qq 3) (qq 7) x2 (if x2 = 0 then 0 else x3), la cy (qq 7) 40 (fun _ => 0)]) := hD2
              replace hP2 := hP2.sub (ws' := [sO cy hh a kk dd b w ee qq ik, ia cy (hh 1) 7 C, qsB cy qq, hO cy (qq 1) (qq 5) (bi 0) (si 0), hO cy (qq 2) (qq 6) (bi 1) (si 1), hO cy (qq 3) (qq 7) x2 (if x2 = 0 then 0 else x3), hO cy (qq 4) (qq 8) (bi 3) (si 3), la cy (qq 5) 40 (f 0), la cy (qq 6) 40 (f 1), la cy (qq 7) 40 (fun _ => 0), la cy (qq 8) 40 (f 3)]) [0, 1, 2, 3, 4, 9, 5, 6, 7, 10, 8] rfl
              replace hD2 := hD2.sub (ws' := [sO cy hh a kk dd b w ee qq ik, ia cy (hh 1) 7 C, qsB cy qq, hO cy (qq 1) (qq 5) (bi 0) (si 0), hO cy (qq 2) (qq 6) (bi 1) (si 1), hO cy (qq 3) (qq 7) x2 (if x2 = 0 then 0 else x3), hO cy (qq 4) (qq 8) (bi 3) (si 3), la cy (qq 5) 40 (f 0), la cy (qq 6) 40 (f 1), la cy (qq 7) 40 (fun _ => 0), la cy (qq 8) 40 (f 3)]) [0, 1, 2, 3, 4, 9, 5, 6, 7, 10, 8] (by decide) rfl
              refine lv_aload_n hx hb dX6_sheet_78 rfl (lv_at hl0 0 rfl) ?_
              refine va_get (D := D) (ci := 6) (v := .ref (qq 0)) (C := RX6) (T := TX6) (N := 9) hx hb hw iX6 hown hK hP2 0 rfl rfl 7 (by decide) (hw _ kw_2_34) (fun _ h9 => h9) rfl dX6_sheet_79 ?_
              refine lv_iload_n hx hb dX6_sheet_82 rfl (lv_at hl0 1 rfl) ?_
              refine ald_q hx hb hK hP2 2 3 rfl rfl rfl 2 rfl (by first | omega | assumption) (by decide) (rfl) dX6_sheet_83 ?_
              refine va_get (D := D) (ci := 2) (v := .int (if x2 = 0 then 0 else x3)) (C := RX2) (T := TX2) (N := 3) hx hb hw iX2 hown hK hP2 5 rfl rfl 2 (by decide) (hw _ kw_2_18) (fun _ h9 => h9) rfl dX6_sheet_84 ?_
              replace hP2 : va_P D vwCl ([sO cy hh a kk dd b w ee qq ik, ia cy (hh 1) 7 C] ++ (shB cy qq (va_up bi 2 x2) (va_up si 2 (if x2 = 0 then 0 else x3)) (va_up f 2 (fun _ => 0)))) H2 := hP2
              replace hD2 : va_D (va_A _ sz) ([sO cy hh a kk dd b w ee qq ik, ia cy (hh 1) 7 C] ++ (shB cy qq (va_up bi 2 x2) (va_up si 2 (if x2 = 0 then 0 else x3)) (va_up f 2 (fun _ => 0)))) := hD2
              have hcd : cLay 2 x2 x3 = 7 := by unfold cLay; clear hx hb hml hown hr hlocks hw hsz hA hG hK hP2 hD2 hS2 hl0; grind
              have hq9 : ([sO cy hh a kk dd b w ee qq ik, ia cy (hh 1) 7 C] ++ (shB cy qq (va_up bi 2 x2) (va_up si 2 (if x2 = 0 then 0 else x3)) (va_up f 2 (fun _ => 0)))) = ([sO cy hh a kk dd b w ee qq ik, ia cy (hh 1) 7 (fnd C (cLay 2 x2 x3))] ++ (shB cy qq (va_up bi 2 x2) (va_up si 2 (if x2 = 0 then 0 else x3)) (va_up f 2 (fun _ => 0)))) := congrArg (fun z9 => [sO cy hh a kk dd b w ee qq ik, ia cy (hh 1) 7 z9] ++ (shB cy qq (va_up bi 2 x2) (va_up si 2 (if x2 = 0 then 0 else x3)) (va_up f 2 (fun _ => 0)))) (show C = (fnd C (cLay 2 x2 x3)) from fnd_o hcd)
              replace hP2 := (congrArg (fun z9 => va_P D vwCl z9 _) hq9).mp hP2
              replace hD2 := (congrArg (fun z9 => va_D _ z9) hq9).mp hD2
              clear hq9
              have hq9 : ([sO cy hh a kk dd b w ee qq ik, ia cy (hh 1) 7 (fnd C (cLay 2 x2 x3))] ++ (shB cy qq (va_up bi 2 x2) (va_up si 2 (if x2 = 0 then 0 else x3)) (va_up f 2 (fun _ => 0)))) = ([sO cy hh a kk dd b w ee qq ik, ia cy (hh 1) 7 (fnd C (cLay 2 x2 x3))] ++ (shB cy qq (if cLay 2 x2 x3 = 7 then va_up bi (bstN 2) x2 else bi) (va_up si 2 (if x2 = 0 then 0 else x3)) (va_up f 2 (fun _ => 0)))) := congrArg (fun z9 => [sO cy hh a kk dd b w ee qq ik, ia cy (hh 1) 7 (fnd C (cLay 2 x2 x3))] ++ (shB cy qq z9 (va_up si 2 (if x2 = 0 then 0 else x3)) (va_up f 2 (fun _ => 0)))) (show (va_up bi 2 x2) = (if cLay 2 x2 x3 = 7 then va_up bi (bstN 2) x2 else bi) from by rw [if_pos hcd]; simp only [hb0, hb1, hb2, hb3])
              replace hP2 := (congrArg (fun z9 => va_P D vwCl z9 _) hq9).mp hP2
              replace hD2 := (congrArg (fun z9 => va_D _ z9) hq9).mp hD2
              clear hq9
              have hq9 : ([sO cy hh a kk dd b w ee qq ik, ia cy (hh 1) 7 (fnd C (cLay 2 x2 x3))] ++ (shB cy qq (if cLay 2 x2 x3 = 7 then va_up bi (bstN 2) x2 else bi) (va_up si 2 (if x2 = 0 then 0 else x3)) (va_up f 2 (fun _ => 0)))) = ([sO cy hh a kk dd b w ee qq ik, ia cy (hh 1) 7 (fnd C (cLay 2 x2 x3))] ++ (shB cy qq (if cLay 2 x2 x3 = 7 then va_up bi (bstN 2) x2 else bi) (if cLay 2 x2 x3 = 7 then va_up si (bstN 2) (if x2 = 0 then 0 else x3) else si) (va_up f 2 (fun _ => 0)))) := congrArg (fun z9 => [sO cy hh a kk dd b w ee qq ik, ia cy (hh 1) 7 (fnd C (cLay 2 x2 x3))] ++ (shB cy qq (if cLay 2 x2 x3 = 7 then va_up bi (bstN 2) x2 else bi) z9 (va_up f 2 (fun _ => 0)))) (show (va_up si 2 (if x2 = 0 then 0 else x3)) = (if cLay 2 x2 x3 = 7 then va_up si (bstN 2) (if x2 = 0 then 0 else x3) else si) from by rw [if_pos hcd]; simp only [hb0, hb1, hb2, hb3])
              replace hP2 := (congrArg (fun z9 => va_P D vwCl z9 _) hq9).mp hP2
              replace hD2 := (congrArg (fun z9 => va_D _ z9) hq9).mp hD2
              clear hq9
              have hq9 : ([sO cy hh a kk dd b w ee qq ik, ia cy (hh 1) 7 (fnd C (cLay 2 x2 x3))] ++ (shB cy qq (if cLay 2 x2 x3 = 7 then va_up bi (bstN 2) x2 else bi) (if cLay 2 x2 x3 = 7 then va_up si (bstN 2) (if x2 = 0 then 0 else x3) else si) (va_up f 2 (fun _ => 0)))) = ([sO cy hh a kk dd b w ee qq ik, ia cy (hh 1) 7 (fnd C (cLay 2 x2 x3))] ++ (shB cy qq (if cLay 2 x2 x3 = 7 then va_up bi (bstN 2) x2 else bi) (if cLay 2 x2 x3 = 7 then va_up si (bstN 2) (if x2 = 0 then 0 else x3) else si) (if cLay 2 x2 x3 = 7 then va_up f (bstN 2) (fun _ => 0) else f))) := congrArg (fun z9 => [sO cy hh a kk dd b w ee qq ik, ia cy (hh 1) 7 (fnd C (cLay 2 x2 x3))] ++ (shB cy qq (if cLay 2 x2 x3 = 7 then va_up bi (bstN 2) x2 else bi) (if cLay 2 x2 x3 = 7 then va_up si (bstN 2) (if x2 = 0 then 0 else x3) else si) z9)) (show (va_up f 2 (fun _ => 0)) = (if cLay 2 x2 x3 = 7 then va_up f (bstN 2) (fun _ => 0) else f) from by rw [if_pos hcd]; simp only [hb0, hb1, hb2, hb3])
              replace hP2 := (congrArg (fun z9 => va_P D vwCl z9 _) hq9).mp hP2
              replace hD2 := (congrArg (fun z9 => va_D _ z9) hq9).mp hD2
              clear hq9
              refine re_i () hx hb hr hlocks hP2 hD2 hS2 dX6_sheet_87 ?_
              exact (ans_o hcd (rfl))
          · replace hP1 : va_P D vwCl ([sO cy hh a kk dd b w ee qq ik, ia cy (hh 1) 7 C, qsB cy qq, hO cy (qq 1) (qq 5) (bi 0) (si 0), hO cy (qq 2) (qq 6) (bi 1) (si 1), hO cy (qq 3) (qq 7) (bi 2) (si 2), hO cy (qq 4) (qq 8) (bi 3) (si 3), la cy (qq 5) 40 (f 0), la cy (qq 6) 40 (f 1), la cy (qq 7) 40 (f 2), la cy (qq 8) 40 (f 3)]) H1 := hP1
            replace hD1 : va_D (va_A _ sz) ([sO cy hh a kk dd b w ee qq ik, ia cy (hh 1) 7 C, qsB cy qq, hO cy (qq 1) (qq 5) (bi 0) (si 0), hO cy (qq 2) (qq 6) (bi 1) (si 1), hO cy (qq 3) (qq 7) (bi 2) (si 2), hO cy (qq 4) (qq 8) (bi 3) (si 3), la cy (qq 5) 40 (f 0), la cy (qq 6) 40 (f 1), la cy (qq 7) 40 (f 2), la cy (qq 8) 40 (f 3)]) := hD1
            refine lv_aload_n hx hb dX6_sheet_59 rfl (lv_at hl0 0 rfl) ?_
            refine va_get (D := D) (ci := 6) (v := .ref (qq 0)) (C := RX6) (T := TX6) (N := 9) hx hb hw iX6 hown hK hP1 0 rfl rfl 7 (by decide) (hw _ kw_2_34) (fun _ h9 => h9) rfl dX6_sheet_60 ?_
            refine lv_iload_n hx hb dX6_sheet_63 rfl (lv_at hl0 1 rfl) ?_
            refine ald_q hx hb hK hP1 2 3 rfl rfl rfl 3 rfl (by first | omega | assumption) (by decide) (rfl) dX6_sheet_64 ?_
            refine lv_iload_n hx hb dX6_sheet_65 rfl (lv_at hl0 2 rfl) ?_
            refine lv_iload_n hx hb dX6_sheet_66 rfl (lv_at hl0 2 rfl) ?_
            refine lv_if_ne (tgt := 74) hx hb dX6_sheet_67 (by decide) (fun c_67 => ?_) (fun c_67 => ?_)
            · refine lv_iload_n hx hb dX6_sheet_74 rfl (lv_at hl0 3 rfl) ?_
              refine tp (show (x3) = if x2 = 0 then 0 else x3 from (if_neg c_67).symm) ?_
              refine cV_v (wc := [hO cy (qq 4) (qq 8) (bi 3) (si 3), la cy (qq 8) 40 (f 3)]) (wr := [sO cy hh a kk dd b w ee qq ik, ia cy (hh 1) 7 C, qsB cy qq, hO cy (qq 1) (qq 5) (bi 0) (si 0), hO cy (qq 2) (qq 6) (bi 1) (si 1), hO cy (qq 3) (qq 7) (bi 2) (si 2), la cy (qq 5) 40 (f 0), la cy (qq 6) 40 (f 1), la cy (qq 7) 40 (f 2)]) (rest := []) hx hb hml hown hw hG hK hP1 hD1 hS1 hA hl0 kc_X2_lay kw_4_0 [.int x2, .int (if x2 = 0 then 0 else x3)] (c_X2_lay l D cy G H1.size (qq 4) (qq 8) (bi 3) (si 3) (f 3) x2 (if x2 = 0 then 0 else x3) ((hso 3 (by decide)).2.2)) [6, 10] [0, 1, 2, 3, 4, 5, 7, 8, 9] rfl rfl rfl rfl rfl 0 rfl rfl rfl rfl rfl (Nat.le_of_ble_eq_true rfl) ⟨Nat.le_of_ble_eq_true rfl, Nat.le_of_ble_eq_true rfl⟩ dX6_sheet_75 ⟨Nat.le_of_ble_eq_true rfl, Nat.le_of_ble_eq_true rfl⟩ (fun u9 H2 locs2 hu9 hP2 hD2 hS2 => ?_)
              clear hP1 hD1 hS1 locs1 H1
              replace hP2 : va_P D vwCl ([sO cy hh a kk dd b w ee qq ik, ia cy (hh 1) 7 C, qsB cy qq, hO cy (qq 1) (qq 5) (bi 0) (si 0), hO cy (qq 2) (qq 6) (bi 1) (si 1), hO cy (qq 3) (qq 7) (bi 2) (si 2), la cy (qq 5) 40 (f 0), la cy (qq 6) 40 (f 1), la cy (qq 7) 40 (f 2), hO cy (qq 4) (qq 8) x2 (if x2 = 0 then 0 else x3), la cy (qq 8) 40 (fun _ => 0)]) H2 := hP2
              replace hD2 : va_D (va_A _ sz) ([sO cy hh a kk dd b w ee qq ik, ia cy (hh 1) 7 C, qsB cy qq, hO cy (qq 1) (qq 5) (bi 0) (si 0), hO cy (qq 2) (qq 6) (bi 1) (si 1), hO cy (qq 3) (qq 7) (bi 2) (si 2), la cy (qq 5) 40 (f 0), la cy (qq 6) 40 (f 1), la cy (qq 7) 40 (f 2), hO cy (qq 4) (qq 8) x2 (if x2 = 0 then 0 else x3), la cy (qq 8) 40 (fun _ => 0)]) := hD2
              replace hP2 := hP2.sub (ws' := [sO cy hh a kk dd b w ee qq ik, ia cy (hh 1) 7 C, qsB cy qq, hO cy (qq 1) (qq 5) (bi 0) (si 0), hO cy (qq 2) (qq 6) (bi 1) (si 1), hO cy (qq 3) (qq 7) (bi 2) (si 2), hO cy (qq 4) (qq 8) x2 (if x2 = 0 then 0 else x3), la cy (qq 5) 40 (f 0), la cy (qq 6) 40 (f 1), la cy (qq 7) 40 (f 2), la cy (qq 8) 40 (fun _ => 0)]) [0, 1, 2, 3, 4, 5, 9, 6, 7, 8, 10] rfl
              replace hD2 := hD2.sub (ws' := [sO cy hh a kk dd b w ee qq ik, ia cy (hh 1) 7 C, qsB cy qq, hO cy (qq 1) (qq 5) (bi 0) (si 0), hO cy (qq 2) (qq 6) (bi 1) (si 1), hO cy (qq 3) (qq 7) (bi 2) (si 2), hO cy (qq 4) (qq 8) x2 (if x2 = 0 then 0 else x3), la cy (qq 5) 40 (f 0), la cy (qq 6) 40 (f 1), la cy (qq 7) 40 (f 2), la cy (qq 8) 40 (fun _ => 0)]) [0, 1, 2, 3, 4, 5, 9, 6, 7, 8, 10] (by decide) rfl
              refine lv_aload_n hx hb dX6_sheet_78 rfl (lv_at hl0 0 rfl) ?_
              refine va_get (D := D) (ci := 6) (v := .ref (qq 0)) (C := RX6) (T := TX6) (N := 9) hx hb hw iX6 hown hK hP2 0 rfl rfl 7 (by decide) (hw _ kw_2_34) (fun _ h9 => h9) rfl dX6_sheet_79 ?_
              refine lv_iload_n hx hb dX6_sheet_82 rfl (lv_at hl0 1 rfl) ?_
              refine ald_q hx hb hK hP2 2 3 rfl rfl rfl 3 rfl (by first | omega | assumption) (by decide) (rfl) dX6_sheet_83 ?_
              refine va_get (D := D) (ci := 2) (v := .int (if x2 = 0 then 0 else x3)) (C := RX2) (T := TX2) (N := 3) hx hb hw iX2 hown hK hP2 6 rfl rfl 2 (by decide) (hw _ kw_2_18) (fun _ h9 => h9) rfl dX6_sheet_84 ?_
              replace hP2 : va_P D vwCl ([sO cy hh a kk dd b w ee qq ik, ia cy (hh 1) 7 C] ++ (shB cy qq (va_up bi 3 x2) (va_up si 3 (if x2 = 0 then 0 else x3)) (va_up f 3 (fun _ => 0)))) H2 := hP2
              replace hD2 : va_D (va_A _ sz) ([sO cy hh a kk dd b w ee qq ik, ia cy (hh 1) 7 C] ++ (shB cy qq (va_up bi 3 x2) (va_up si 3 (if x2 = 0 then 0 else x3)) (va_up f 3 (fun _ => 0)))) := hD2
              have hcd : cLay 3 x2 x3 = 7 := by unfold cLay; clear hx hb hml hown hr hlocks hw hsz hA hG hK hP2 hD2 hS2 hl0; grind
              have hq9 : ([sO cy hh a kk dd b w ee qq ik, ia cy (hh 1) 7 C] ++ (shB cy qq (va_up bi 3 x2) (va_up si 3 (if x2 = 0 then 0 else x3)) (va_up f 3 (fun _ => 0)))) = ([sO cy hh a kk dd b w ee qq ik, ia cy (hh 1) 7 (fnd C (cLay 3 x2 x3))] ++ (shB cy qq (va_up bi 3 x2) (va_up si 3 (if x2 = 0 then 0 else x3)) (va_up f 3 (fun _ => 0)))) := congrArg (fun z9 => [sO cy hh a kk dd b w ee qq ik, ia cy (hh 1) 7 z9] ++ (shB cy qq (va_up bi 3 x2) (va_up si 3 (if x2 = 0 then 0 else x3)) (va_up f 3 (fun _ => 0)))) (show C = (fnd C (cLay 3 x2 x3)) from fnd_o hcd)
              replace hP2 := (congrArg (fun z9 => va_P D vwCl z9 _) hq9).mp hP2
              replace hD2 := (congrArg (fun z9 => va_D _ z9) hq9).mp hD2
              clear hq9
              have hq9 : ([sO cy hh a kk dd b w ee qq ik, ia cy (hh 1) 7 (fnd C (cLay 3 x2 x3))] ++ (shB cy qq (va_up bi 3 x2) (va_up si 3 (if x2 = 0 then 0 else x3)) (va_up f 3 (fun _ => 0)))) = ([sO cy hh a kk dd b w ee qq ik, ia cy (hh 1) 7 (fnd C (cLay 3 x2 x3))] ++ (shB cy qq (if cLay 3 x2 x3 = 7 then va_up bi (bstN 3) x2 else bi) (va_up si 3 (if x2 = 0 then 0 else x3)) (va_up f 3 (fun _ => 0)))) := congrArg (fun z9 => [sO cy hh a kk dd b w ee qq ik, ia cy (hh 1) 7 (fnd C (cLay 3 x2 x3))] ++ (shB cy qq z9 (va_up si 3 (if x2 = 0 then 0 else x3)) (va_up f 3 (fun _ => 0)))) (show (va_up bi 3 x2) = (if cLay 3 x2 x3 = 7 then va_up bi (bstN 3) x2 else bi) from by rw [if_pos hcd]; simp only [hb0, hb1, hb2, hb3])
              replace hP2 := (congrArg (fun z9 => va_P D vwCl z9 _) hq9).mp hP2
              replace hD2 := (congrArg (fun z9 => va_D _ z9) hq9).mp hD2
              clear hq9
              have hq9 : ([sO cy hh a kk dd b w ee qq ik, ia cy (hh 1) 7 (fnd C (cLay 3 x2 x3))] ++ (shB cy qq (if cLay 3 x2 x3 = 7 then va_up bi (bstN 3) x2 else bi) (va_up si 3 (if x2 = 0 then 0 else x3)) (va_up f 3 (fun _ => 0)))) = ([sO cy hh a kk dd b w ee qq ik, ia cy (hh 1) 7 (fnd C (cLay 3 x2 x3))] ++ (shB cy qq (if cLay 3 x2 x3 = 7 then va_up bi (bstN 3) x2 else bi) (if cLay 3 x2 x3 = 7 then va_up si (bstN 3) (if x2 = 0 then 0 else x3) else si) (va_up f 3 (fun _ => 0)))) := congrArg (fun z9 => [sO cy hh a kk dd b w ee qq ik, ia cy (hh 1) 7 (fnd C (cLay 3 x2 x3))] ++ (shB cy qq (if cLay 3 x2 x3 = 7 then va_up bi (bstN 3) x2 else bi) z9 (va_up f 3 (fun _ => 0)))) (show (va_up si 3 (if x2 = 0 then 0 else x3)) = (if cLay 3 x2 x3 = 7 then va_up si (bstN 3) (if x2 = 0 then 0 else x3) else si) from by rw [if_pos hcd]; simp only [hb0, hb1, hb2, hb3])
              replace hP2 := (congrArg (fun z9 => va_P D vwCl z9 _) hq9).mp hP2
              replace hD2 := (congrArg (fun z9 => va_D _ z9) hq9).mp hD2
              clear hq9
              have hq9 : ([sO cy hh a kk dd b w ee qq ik, ia cy (hh 1) 7 (fnd C (cLay 3 x2 x3))] ++ (shB cy qq (if cLay 3 x2 x3 = 7 then va_up bi (bstN 3) x2 else bi) (if cLay 3 x2 x3 = 7 then va_up si (bstN 3) (if x2 = 0 then 0 else x3) else si) (va_up f 3 (fun _ => 0)))) = ([sO cy hh a kk dd b w ee qq ik, ia cy (hh 1) 7 (fnd C (cLay 3 x2 x3))] ++ (shB cy qq (if cLay 3 x2 x3 = 7 then va_up bi (bstN 3) x2 else bi) (if cLay 3 x2 x3 = 7 then va_up si (bstN 3) (if x2 = 0 then 0 else x3) else si) (if cLay 3 x2 x3 = 7 then va_up f (bstN 3) (fun _ => 0) else f))) := congrArg (fun z9 => [sO cy hh a kk dd b w ee qq ik, ia cy (hh 1) 7 (fnd C (cLay 3 x2 x3))] ++ (shB cy qq (if cLay 3 x2 x3 = 7 then va_up bi (bstN 3) x2 else bi) (if cLay 3 x2 x3 = 7 then va_up si (bstN 3) (if x2 = 0 then 0 else x3) else si) z9)) (show (va_up f 3 (fun _ => 0)) = (if cLay 3 x2 x3 = 7 then va_up f (bstN 3) (fun _ => 0) else f) from by rw [if_pos hcd]; simp only [hb0, hb1, hb2, hb3])
              replace hP2 := (congrArg (fun z9 => va_P D vwCl z9 _) hq9).mp hP2
              replace hD2 := (congrArg (fun z9 => va_D _ z9) hq9).mp hD2
              clear hq9
              refine re_i () hx hb hr hlocks hP2 hD2 hS2 dX6_sheet_87 ?_
              exact (ans_o hcd (rfl))
            · refine lv_iconst (v := 0) hx hb dX6_sheet_70 (by decide) ?_
              refine lv_goto (tgt := 75) hx hb dX6_sheet_71 (by decide) ?_
              refine tp (show (0) = if x2 = 0 then 0 else x3 from (if_pos c_67).symm) ?_
              refine cV_v (wc := [hO cy (qq 4) (qq 8) (bi 3) (si 3), la cy (qq 8) 40 (f 3)]) (wr := [sO cy hh a kk dd b w ee qq ik, ia cy (hh 1) 7 C, qsB cy qq, hO cy (qq 1) (qq 5) (bi 0) (si 0), hO cy (qq 2) (qq 6) (bi 1) (si 1), hO cy (qq 3) (qq 7) (bi 2) (si 2), la cy (qq 5) 40 (f 0), la cy (qq 6) 40 (f 1), la cy (qq 7) 40 (f 2)]) (rest := []) hx hb hml hown hw hG hK hP1 hD1 hS1 hA hl0 kc_X2_lay kw_4_0 [.int x2, .int (if x2 = 0 then 0 else x3)] (c_X2_lay l D cy G H1.size (qq 4) (qq 8) (bi 3) (si 3) (f 3) x2 (if x2 = 0 then 0 else x3) ((hso 3 (by decide)).2.2)) [6, 10] [0, 1, 2, 3, 4, 5, 7, 8, 9] rfl rfl rfl rfl rfl 0 rfl rfl rfl rfl rfl (Nat.le_of_ble_eq_true rfl) ⟨Nat.le_of_ble_eq_true rfl, Nat.le_of_ble_eq_true rfl⟩ dX6_sheet_75 ⟨Nat.le_of_ble_eq_true rfl, Nat.le_of_ble_eq_true rfl⟩ (fun u9 H2 locs2 hu9 hP2 hD2 hS2 => ?_)
              clear hP1 hD1 hS1 locs1 H1
              replace hP2 : va_P D vwCl ([sO cy hh a kk dd b w ee qq ik, ia cy (hh 1) 7 C, qsB cy qq, hO cy (qq 1) (qq 5) (bi 0) (si 0), hO cy (qq 2) (qq 6) (bi 1) (si 1), hO cy (qq 3) (qq 7) (bi 2) (si 2), la cy (qq 5) 40 (f 0), la cy (qq 6) 40 (f 1), la cy (qq 7) 40 (f 2), hO cy (qq 4) (qq 8) x2 (if x2 = 0 then 0 else x3), la cy (qq 8) 40 (fun _ => 0)]) H2 := hP2
              replace hD2 : va_D (va_A _ sz) ([sO cy hh a kk dd b w ee qq ik, ia cy (hh 1) 7 C, qsB cy qq, hO cy (qq 1) (qq 5) (bi 0) (si 0), hO cy (qq 2) (qq 6) (bi 1) (si 1), hO cy (qq 3) (qq 7) (bi 2) (si 2), la cy (qq 5) 40 (f 0), la cy (qq 6) 40 (f 1), la cy (qq 7) 40 (f 2), hO cy (qq 4) (qq 8) x2 (if x2 = 0 then 0 else x3), la cy (qq 8) 40 (fun _ => 0)]) := hD2
              replace hP2 := hP2.sub (ws' := [sO cy hh a kk dd b w ee qq ik, ia cy (hh 1) 7 C, qsB cy qq, hO cy (qq 1) (qq 5) (bi 0) (si 0), hO cy (qq 2) (qq 6) (bi 1) (si 1), hO cy (qq 3) (qq 7) (bi 2) (si 2), hO cy (qq 4) (qq 8) x2 (if x2 = 0 then 0 else x3), la cy (qq 5) 40 (f 0), la cy (qq 6) 40 (f 1), la cy (qq 7) 40 (f 2), la cy (qq 8) 40 (fun _ => 0)]) [0, 1, 2, 3, 4, 5, 9, 6, 7, 8, 10] rfl
              replace hD2 := hD2.sub (ws' := [sO cy hh a kk dd b w ee qq ik, ia cy (hh 1) 7 C, qsB cy qq, hO cy (qq 1) (qq 5) (bi 0) (si 0), hO cy (qq 2) (qq 6) (bi 1) (si 1), hO cy (qq 3) (qq 7) (bi 2) (si 2), hO cy (qq 4) (qq 8) x2 (if x2 = 0 then 0 else x3), la cy (qq 5) 40 (f 0), la cy (qq 6) 40 (f 1), la cy (qq 7) 40 (f 2), la cy (qq 8) 40 (fun _ => 0)]) [0, 1, 2, 3, 4, 5, 9, 6, 7, 8, 10] (by decide) rfl
              refine lv_aload_n hx hb dX6_sheet_78 rfl (lv_at hl0 0 rfl) ?_
              refine va_get (D := D) (ci := 6) (v := .ref (qq 0)) (C := RX6) (T := TX6) (N := 9) hx hb hw iX6 hown hK hP2 0 rfl rfl 7 (by decide) (hw _ kw_2_34) (fun _ h9 => h9) rfl dX6_sheet_79 ?_
              refine lv_iload_n hx hb dX6_sheet_82 rfl (lv_at hl0 1 rfl) ?_
              refine ald_q hx hb hK hP2 2 3 rfl rfl rfl 3 rfl (by first | omega | assumption) (by decide) (rfl) dX6_sheet_83 ?_
              refine va_get (D := D) (ci := 2) (v := .int (if x2 = 0 then 0 else x3)) (C := RX2) (T := TX2) (N := 3) hx hb hw iX2 hown hK hP2 6 rfl rfl 2 (by decide) (hw _ kw_2_18) (fun _ h9 => h9) rfl dX6_sheet_84 ?_
              replace hP2 : va_P D vwCl ([sO cy hh a kk dd b w ee qq ik, ia cy (hh 1) 7 C] ++ (shB cy qq (va_up bi 3 x2) (va_up si 3 (if x2 = 0 then 0 else x3)) (va_up f 3 (fun _ => 0)))) H2 := hP2
              replace hD2 : va_D (va_A _ sz) ([sO cy hh a kk dd b w ee qq ik, ia cy (hh 1) 7 C] ++ (shB cy qq (va_up bi 3 x2) (va_up si 3 (if x2 = 0 then 0 else x3)) (va_up f 3 (fun _ => 0)))) := hD2
              have hcd : cLay 3 x2 x3 = 7 := by unfold cLay; clear hx hb hml hown hr hlocks hw hsz hA hG hK hP2 hD2 hS2 hl0; grind
              have hq9 : ([sO cy hh a kk dd b w ee qq ik, ia cy (hh 1) 7 C] ++ (shB cy qq (va_up bi 3 x2) (va_up si 3 (if x2 = 0 then 0 else x3)) (va_up f 3 (fun _ => 0)))) = ([sO cy hh a kk dd b w ee qq ik, ia cy (hh 1) 7 (fnd C (cLay 3 x2 x3))] ++ (shB cy qq (va_up bi 3 x2) (va_up si 3 (if x2 = 0 then 0 else x3)) (va_up f 3 (fun _ => 0)))) := congrArg (fun z9 => [sO cy hh a kk dd b w ee qq ik, ia cy (hh 1) 7 z9] ++ (shB cy qq (va_up bi 3 x2) (va_up si 3 (if x2 = 0 then 0 else x3)) (va_up f 3 (fun _ => 0)))) (show C = (fnd C (cLay 3 x2 x3)) from fnd_o hcd)
              replace hP2 := (congrArg (fun z9 => va_P D vwCl z9 _) hq9).mp hP2
              replace hD2 := (congrArg (fun z9 => va_D _ z9) hq9).mp hD2
              clear hq9
              have hq9 : ([sO cy hh a kk dd b w ee qq ik, ia cy (hh 1) 7 (fnd C (cLay 3 x2 x3))] ++ (shB cy qq (va_up bi 3 x2) (va_up si 3 (if x2 = 0 then 0 else x3)) (va_up f 3 (fun _ => 0)))) = ([sO cy hh a kk dd b w ee qq ik, ia cy (hh 1) 7 (fnd C (cLay 3 x2 x3))] ++ (shB cy qq (if cLay 3 x2 x3 = 7 then va_up bi (bstN 3) x2 else bi) (va_up si 3 (if x2 = 0 then 0 else x3)) (va_up f 3 (fun _ => 0)))) := congrArg (fun z9 => [sO cy hh a kk dd b w ee qq ik, ia cy (hh 1) 7 (fnd C (cLay 3 x2 x3))] ++ (shB cy qq z9 (va_up si 3 (if x2 = 0 then 0 else x3)) (va_up f 3 (fun _ => 0)))) (show (va_up bi 3 x2) = (if cLay 3 x2 x3 = 7 then va_up bi (bstN 3) x2 else bi) from by rw [if_pos hcd]; simp only [hb0, hb1, hb2, hb3])
              replace hP2 := (congrArg (fun z9 => va_P D vwCl z9 _) hq9).mp hP2
              replace hD2 := (congrArg (fun z9 => va_D _ z9) hq9).mp hD2
              clear hq9
              have hq9 : ([sO cy hh a kk dd b w ee qq ik, ia cy (hh 1) 7 (fnd C (cLay 3 x2 x3))] ++ (shB cy qq (if cLay 3 x2 x3 = 7 then va_up bi (bstN 3) x2 else bi) (va_up si 3 (if x2 = 0 then 0 else x3)) (va_up f 3 (fun _ => 0)))) = ([sO cy hh a kk dd b w ee qq ik, ia cy (hh 1) 7 (fnd C (cLay 3 x2 x3))] ++ (shB cy qq (if cLay 3 x2 x3 = 7 then va_up bi (bstN 3) x2 else bi) (if cLay 3 x2 x3 = 7 then va_up si (bstN 3) (if x2 = 0 then 0 else x3) else si) (va_up f 3 (fun _ => 0)))) := congrArg (fun z9 => [sO cy hh a kk dd b w ee qq ik, ia cy (hh 1) 7 (fnd C (cLay 3 x2 x3))] ++ (shB cy qq (if cLay 3 x2 x3 = 7 then va_up bi (bstN 3) x2 else bi) z9 (va_up f 3 (fun _ => 0)))) (show (va_up si 3 (if x2 = 0 then 0 else x3)) = (if cLay 3 x2 x3 = 7 then va_up si (bstN 3) (if x2 = 0 then 0 else x3) else si) from by rw [if_pos hcd]; simp only [hb0, hb1, hb2, hb3])
              replace hP2 := (congrArg (fun z9 => va_P D vwCl z9 _) hq9).mp hP2
              replace hD2 := (congrArg (fun z9 => va_D _ z9) hq9).mp hD2
              clear hq9
              have hq9 : ([sO cy hh a kk dd b w ee qq ik, ia cy (hh 1) 7 (fnd C (cLay 3 x2 x3))] ++ (shB cy qq (if cLay 3 x2 x3 = 7 then va_up bi (bstN 3) x2 else bi) (if cLay 3 x2 x3 = 7 then va_up si (bstN 3) (if x2 = 0 then 0 else x3) else si) (va_up f 3 (fun _ => 0)))) = ([sO cy hh a kk dd b w ee qq ik, ia cy (hh 1) 7 (fnd C (cLay 3 x2 x3))] ++ (shB cy qq (if cLay 3 x2 x3 = 7 then va_up bi (bstN 3) x2 else bi) (if cLay 3 x2 x3 = 7 then va_up si (bstN 3) (if x2 = 0 then 0 else x3) else si) (if cLay 3 x2 x3 = 7 then va_up f (bstN 3) (fun _ => 0) else f))) := congrArg (fun z9 => [sO cy hh a kk dd b w ee qq ik, ia cy (hh 1) 7 (fnd C (cLay 3 x2 x3))] ++ (shB cy qq (if cLay 3 x2 x3 = 7 then va_up bi (bstN 3) x2 else bi) (if cLay 3 x2 x3 = 7 then va_up si (bstN 3) (if x2 = 0 then 0 else x3) else si) z9)) (show (va_up f 3 (fun _ => 0)) = (if cLay 3 x2 x3 = 7 then va_up f (bstN 3) (fun _ => 0) else f) from by rw [if_pos hcd]; simp only [hb0, hb1, hb2, hb3])
              replace hP2 := (congrArg (fun z9 => va_P D vwCl z9 _) hq9).mp hP2
              replace hD2 := (congrArg (fun z9 => va_D _ z9) hq9).mp hD2
              clear hq9
              refine re_i () hx hb hr hlocks hP2 hD2 hS2 dX6_sheet_87 ?_
              exact (ans_o hcd (rfl))
        · refine lv_aload_n hx hb dX6_sheet_53 rfl (lv_at hl0 0 rfl) ?_
          refine lv_iconst (v := 0) hx hb dX6_sheet_54 (by decide) ?_
          refine cV_i (wc := [sO cy hh a kk dd b w ee qq ik, ia cy (hh 1) 7 C]) (wr := shB cy qq bi si f) (rest := []) hx hb hml hown hw hG hK hP1 hD1 hS1 hA hl0 kc_X6_find kw_2_59 [.int 0] (c_X6_find l D cy G H1.size hh a kk dd b w ee qq ik C 0 (by first | omega | assumption)) [0, 1] [2, 3, 4, 5, 6, 7, 8, 9, 10] rfl rfl rfl rfl rfl 0 rfl rfl rfl rfl rfl (Nat.le_of_ble_eq_true rfl) ⟨Nat.le_of_ble_eq_true rfl, Nat.le_of_ble_eq_true rfl⟩ dX6_sheet_55 ⟨Nat.le_of_ble_eq_true rfl, Nat.le_of_ble_eq_true rfl⟩ (fun r_55 u9 H2 locs2 hu9 hP2 hD2 hS2 => ?_)
          clear hP1 hD1 hS1 locs1 H1
          have hr_55 := hu9
          replace hP2 : va_P D vwCl (shB cy qq bi si f ++ ([sO cy hh a kk dd b w ee qq ik, ia cy (hh 1) 7 (upd C 0 (C 0 + 1))])) H2 := hP2
          replace hD2 : va_D (va_A _ sz) (shB cy qq bi si f ++ ([sO cy hh a kk dd b w ee qq ik, ia cy (hh 1) 7 (upd C 0 (C 0 + 1))])) := hD2
          replace hP2 := hP2.sub (ws' := [sO cy hh a kk dd b w ee qq ik, ia cy (hh 1) 7 (upd C 0 (C 0 + 1))] ++ (shB cy qq bi si f)) [9, 10, 0, 1, 2, 3, 4, 5, 6, 7, 8] rfl
          replace hD2 := hD2.sub (ws' := [sO cy hh a kk dd b w ee qq ik, ia cy (hh 1) 7 (upd C 0 (C 0 + 1))] ++ (shB cy qq bi si f)) [9, 10, 0, 1, 2, 3, 4, 5, 6, 7, 8] (by decide) rfl
          subst hr_55
          have hcd : cLay x1 x2 x3 = 0 := by unfold cLay; clear hx hb hml hown hr hlocks hw hsz hA hG hK hP2 hD2 hS2 hl0; grind
          have hq9 : ([sO cy hh a kk dd b w ee qq ik, ia cy (hh 1) 7 (upd C 0 (C 0 + 1))] ++ (shB cy qq bi si f)) = ([sO cy hh a kk dd b w ee qq ik, ia cy (hh 1) 7 (fnd C (cLay x1 x2 x3))] ++ (shB cy qq bi si f)) := congrArg (fun z9 => [sO cy hh a kk dd b w ee qq ik, ia cy (hh 1) 7 z9] ++ (shB cy qq bi si f)) (show (upd C 0 (C 0 + 1)) = (fnd C (cLay x1 x2 x3)) from fnd_f hcd (by decide))
          replace hP2 := (congrArg (fun z9 => va_P D vwCl z9 _) hq9).mp hP2
          replace hD2 := (congrArg (fun z9 => va_D _ z9) hq9).mp hD2
          clear hq9
          have hq9 : ([sO cy hh a kk dd b w ee qq ik, ia cy (hh 1) 7 (fnd C (cLay x1 x2 x3))] ++ (shB cy qq bi si f)) = ([sO cy hh a kk dd b w ee qq ik, ia cy (hh 1) 7 (fnd C (cLay x1 x2 x3))] ++ (shB cy qq (if cLay x1 x2 x3 = 7 then va_up bi (bstN x1) x2 else bi) si f)) := congrArg (fun z9 => [sO cy hh a kk dd b w ee qq ik, ia cy (hh 1) 7 (fnd C (cLay x1 x2 x3))] ++ (shB cy qq z9 si f)) (show bi = (if cLay x1 x2 x3 = 7 then va_up bi (bstN x1) x2 else bi) from (if_neg (fun z9 => absurd (hcd.symm.trans z9) (by decide))).symm)
          replace hP2 := (congrArg (fun z9 => va_P D vwCl z9 _) hq9).mp hP2
          replace hD2 := (congrArg (fun z9 => va_D _ z9) hq9).mp hD2
          clear hq9
          have hq9 : ([sO cy hh a kk dd b w ee qq ik, ia cy (hh 1) 7 (fnd C (cLay x1 x2 x3))] ++ (shB cy qq (if cLay x1 x2 x3 = 7 then va_up bi (bstN x1) x2 else bi) si f)) = ([sO cy hh a kk dd b w ee qq ik, ia cy (hh 1) 7 (fnd C (cLay x1 x2 x3))] ++ (shB cy qq (if cLay x1 x2 x3 = 7 then va_up bi (bstN x1) x2 else bi) (if cLay x1 x2 x3 = 7 then va_up si (bstN x1) (if x2 = 0 then 0 else x3) else si) f)) := congrArg (fun z9 => [sO cy hh a kk dd b w ee qq ik, ia cy (hh 1) 7 (fnd C (cLay x1 x2 x3))] ++ (shB cy qq (if cLay x1 x2 x3 = 7 then va_up bi (bstN x1) x2 else bi) z9 f)) (show si = (if cLay x1 x2 x3 = 7 then va_up si (bstN x1) (if x2 = 0 then 0 else x3) else si) from (if_neg (fun z9 => absurd (hcd.symm.trans z9) (by decide))).symm)
          replace hP2 := (congrArg (fun z9 => va_P D vwCl z9 _) hq9).mp hP2
          replace hD2 := (congrArg (fun z9 => va_D _ z9) hq9).mp hD2
          clear hq9
          have hq9 : ([sO cy hh a kk dd b w ee qq ik, ia cy (hh 1) 7 (fnd C (cLay x1 x2 x3))] ++ (shB cy qq (if cLay x1 x2 x3 = 7 then va_up bi (bstN x1) x2 else bi) (if cLay x1 x2 x3 = 7 then va_up si (bstN x1) (if x2 = 0 then 0 else x3) else si) f)) = ([sO cy hh a kk dd b w ee qq ik, ia cy (hh 1) 7 (fnd C (cLay x1 x2 x3))] ++ (shB cy qq (if cLay x1 x2 x3 = 7 then va_up bi (bstN x1) x2 else bi) (if cLay x1 x2 x3 = 7 then va_up si (bstN x1) (if x2 = 0 then 0 else x3) else si) (if cLay x1 x2 x3 = 7 then va_up f (bstN x1) (fun _ => 0) else f))) := congrArg (fun z9 => [sO cy hh a kk dd b w ee qq ik, ia cy (hh 1) 7 (fnd C (cLay x1 x2 x3))] ++ (shB cy qq (if cLay x1 x2 x3 = 7 then va_up bi (bstN x1) x2 else bi) (if cLay x1 x2 x3 = 7 then va_up si (bstN x1) (if x2 = 0 then 0 else x3) else si) z9)) (show f = (if cLay x1 x2 x3 = 7 then va_up f (bstN x1) (fun _ => 0) else f) from (if_neg (fun z9 => absurd (hcd.symm.trans z9) (by decide))).symm)
          replace hP2 := (congrArg (fun z9 => va_P D vwCl z9 _) hq9).mp hP2
          replace hD2 := (congrArg (fun z9 => va_D _ z9) hq9).mp hD2
          clear hq9
          refine re_i () hx hb hr hlocks hP2 hD2 hS2 dX6_sheet_58 ?_
          exact (ans_f hcd (by decide) rfl)
      · refine lv_aload_n hx hb dX6_sheet_40 rfl (lv_at hl0 0 rfl) ?_
        refine lv_bipush (v := 6) hx hb dX6_sheet_41 (by decide) ?_
        refine cV_i (wc := [sO cy hh a kk dd b w ee qq ik, ia cy (hh 1) 7 C]) (wr := shB cy qq bi si f) (rest := []) hx hb hml hown hw hG hK hP1 hD1 hS1 hA hl0 kc_X6_find kw_2_59 [.int 6] (c_X6_find l D cy G H1.size hh a kk dd b w ee qq ik C 6 (by first | omega | assumption)) [0, 1] [2, 3, 4, 5, 6, 7, 8, 9, 10] rfl rfl rfl rfl rfl 0 rfl rfl rfl rfl rfl (Nat.le_of_ble_eq_true rfl) ⟨Nat.le_of_ble_eq_true rfl, Nat.le_of_ble_eq_true rfl⟩ dX6_sheet_43 ⟨Nat.le_of_ble_eq_true rfl, Nat.le_of_ble_eq_true rfl⟩ (fun r_43 u9 H2 locs2 hu9 hP2 hD2 hS2 => ?_)
        clear hP1 hD1 hS1 locs1 H1
        have hr_43 := hu9
        replace hP2 : va_P D vwCl (shB cy qq bi si f ++ ([sO cy hh a kk dd b w ee qq ik, ia cy (hh 1) 7 (upd C 6 (C 6 + 1))])) H2 := hP2
        replace hD2 : va_D (va_A _ sz) (shB cy qq bi si f ++ ([sO cy hh a kk dd b w ee qq ik, ia cy (hh 1) 7 (upd C 6 (C 6 + 1))])) := hD2
        replace hP2 := hP2.sub (ws' := [sO cy hh a kk dd b w ee qq ik, ia cy (hh 1) 7 (upd C 6 (C 6 + 1))] ++ (shB cy qq bi si f)) [9, 10, 0, 1, 2, 3, 4, 5, 6, 7, 8] rfl
        replace hD2 := hD2.sub (ws' := [sO cy hh a kk dd b w ee qq ik, ia cy (hh 1) 7 (upd C 6 (C 6 + 1))] ++ (shB cy qq bi si f)) [9, 10, 0, 1, 2, 3, 4, 5, 6, 7, 8] (by decide) rfl
        subst hr_43
        have hcd : cLay x1 x2 x3 = 6 := by unfold cLay; clear hx hb hml hown hr hlocks hw hsz hA hG hK hP2 hD2 hS2 hl0; grind
        have hq9 : ([sO cy hh a kk dd b w ee qq ik, ia cy (hh 1) 7 (upd C 6 (C 6 + 1))] ++ (shB cy qq bi si f)) = ([sO cy hh a kk dd b w ee qq ik, ia cy (hh 1) 7 (fnd C (cLay x1 x2 x3))] ++ (shB cy qq bi si f)) := congrArg (fun z9 => [sO cy hh a kk dd b w ee qq ik, ia cy (hh 1) 7 z9] ++ (shB cy qq bi si f)) (show (upd C 6 (C 6 + 1)) = (fnd C (cLay x1 x2 x3)) from fnd_f hcd (by decide))
        replace hP2 := (congrArg (fun z9 => va_P D vwCl z9 _) hq9).mp hP2
        replace hD2 := (congrArg (fun z9 => va_D _ z9) hq9).mp hD2
        clear hq9
        have hq9 : ([sO cy hh a kk dd b w ee qq ik, ia cy (hh 1) 7 (fnd C (cLay x1 x2 x3))] ++ (shB cy qq bi si f)) = ([sO cy hh a kk dd b w ee qq ik, ia cy (hh 1) 7 (fnd C (cLay x1 x2 x3))] ++ (shB cy qq (if cLay x1 x2 x3 = 7 then va_up bi (bstN x1) x2 else bi) si f)) := congrArg (fun z9 => [sO cy hh a kk dd b w ee qq ik, ia cy (hh 1) 7 (fnd C (cLay x1 x2 x3))] ++ (shB cy qq z9 si f)) (show bi = (if cLay x1 x2 x3 = 7 then va_up bi (bstN x1) x2 else bi) from (if_neg (fun z9 => absurd (hcd.symm.trans z9) (by decide))).symm)
        replace hP2 := (congrArg (fun z9 => va_P D vwCl z9 _) hq9).mp hP2
        replace hD2 := (congrArg (fun z9 => va_D _ z9) hq9).mp hD2
        clear hq9
        have hq9 : ([sO cy hh a kk dd b w ee qq ik, ia cy (hh 1) 7 (fnd C (cLay x1 x2 x3))] ++ (shB cy qq (if cLay x1 x2 x3 = 7 then va_up bi (bstN x1) x2 else bi) si f)) = ([sO cy hh a kk dd b w ee qq ik, ia cy (hh 1) 7 (fnd C (cLay x1 x2 x3))] ++ (shB cy qq (if cLay x1 x2 x3 = 7 then va_up bi (bstN x1) x2 else bi) (if cLay x1 x2 x3 = 7 then va_up si (bstN x1) (if x2 = 0 then 0 else x3) else si) f)) := congrArg (fun z9 => [sO cy hh a kk dd b w ee qq ik, ia cy (hh 1) 7 (fnd C (cLay x1 x2 x3))] ++ (shB cy qq (if cLay x1 x2 x3 = 7 then va_up bi (bstN x1) x2 else bi) z9 f)) (show si = (if cLay x1 x2 x3 = 7 then va_up si (bstN x1) (if x2 = 0 then 0 else x3) else si) from (if_neg (fun z9 => absurd (hcd.symm.trans z9) (by decide))).symm)
        replace hP2 := (congrArg (fun z9 => va_P D vwCl z9 _) hq9).mp hP2
        replace hD2 := (congrArg (fun z9 => va_D _ z9) hq9).mp hD2
        clear hq9
        have hq9 : ([sO cy hh a kk dd b w ee qq ik, ia cy (hh 1) 7 (fnd C (cLay x1 x2 x3))] ++ (shB cy qq (if cLay x1 x2 x3 = 7 then va_up bi (bstN x1) x2 else bi) (if cLay x1 x2 x3 = 7 then va_up si (bstN x1) (if x2 = 0 then 0 else x3) else si) f)) = ([sO cy hh a kk dd b w ee qq ik, ia cy (hh 1) 7 (fnd C (cLay x1 x2 x3))] ++ (shB cy qq (if cLay x1 x2 x3 = 7 then va_up bi (bstN x1) x2 else bi) (if cLay x1 x2 x3 = 7 then va_up si (bstN x1) (if x2 = 0 then 0 else x3) else si) (if cLay x1 x2 x3 = 7 then va_up f (bstN x1) (fun _ => 0) else f))) := congrArg (fun z9 => [sO cy hh a kk dd b w ee qq ik, ia cy (hh 1) 7 (fnd C (cLay x1 x2 x3))] ++ (shB cy qq (if cLay x1 x2 x3 = 7 then va_up bi (bstN x1) x2 else bi) (if cLay x1 x2 x3 = 7 then va_up si (bstN x1) (if x2 = 0 then 0 else x3) else si) z9)) (show f = (if cLay x1 x2 x3 = 7 then va_up f (bstN x1) (fun _ => 0) else f) from (if_neg (fun z9 => absurd (hcd.symm.trans z9) (by decide))).symm)
        replace hP2 := (congrArg (fun z9 => va_P D vwCl z9 _) hq9).mp hP2
        replace hD2 := (congrArg (fun z9 => va_D _ z9) hq9).mp hD2
        clear hq9
        refine re_i () hx hb hr hlocks hP2 hD2 hS2 dX6_sheet_46 ?_
        exact (ans_f hcd (by decide) rfl)
    · refine lv_iload_n hx hb dX6_sheet_12 rfl (lv_at hl0 2 rfl) ?_
      refine lv_bipush (v := 8) hx hb dX6_sheet_13 (by decide) ?_
      refine lv_icmp_eq (tgt := 36) hx hb dX6_sheet_15 (by decide) (fun c_15 => ?_) (fun c_15 => ?_)
      · refine lv_iload_n hx hb dX6_sheet_36 rfl (lv_at hl0 3 rfl) ?_
        refine lv_if_ge (tgt := 47) hx hb dX6_sheet_37 (by decide) (fun c_37 => ?_) (fun c_37 => ?_)
        · refine lv_iload_n hx hb dX6_sheet_47 rfl (lv_at hl0 3 rfl) ?_
          refine lv_bipush (v := 40) hx hb dX6_sheet_48 (by decide) ?_
          refine lv_icmp_le (tgt := 59) hx hb dX6_sheet_50 (by decide) (fun c_50 => ?_) (fun c_50 => ?_)
          · rcases in3 c_5 with rfl | rfl | rfl | rfl
            · replace hP1 : va_P D vwCl ([sO cy hh a kk dd b w ee qq ik, ia cy (hh 1) 7 C, qsB cy qq, hO cy (qq 1) (qq 5) (bi 0) (si 0), hO cy (qq 2) (qq 6) (bi 1) (si 1), hO cy (qq 3) (qq 7) (bi 2) (si 2), hO cy (qq 4) (qq 8) (bi 3) (si 3), la cy (qq 5) 40 (f 0), la cy (qq 6) 40 (f 1), la cy (qq 7) 40 (f 2), la cy (qq 8) 40 (f 3)]) H1 := hP1
              replace hD1 : va_D (va_A _ sz) ([sO cy hh a kk dd b w ee qq ik, ia cy (hh 1) 7 C, qsB cy qq, hO cy (qq 1) (qq 5) (bi 0) (si 0), hO cy (qq 2) (qq 6) (bi 1) (si 1), hO cy (qq 3) (qq 7) (bi 2) (si 2), hO cy (qq 4) (qq 8) (bi 3) (si 3), la cy (qq 5) 40 (f 0), la cy (qq 6) 40 (f 1), la cy (qq 7) 40 (f 2), la cy (qq 8) 40 (f 3)]) := hD1
              refine lv_aload_n hx hb dX6_sheet_59 rfl (lv_at hl0 0 rfl) ?_
              refine va_get (D := D) (ci := 6) (v := .ref (qq 0)) (C := RX6) (T := TX6) (N := 9) hx hb hw iX6 hown hK hP1 0 rfl rfl 7 (by decide) (hw _ kw_2_34) (fun _ h9 => h9) rfl dX6_sheet_60 ?_
              refine lv_iload_n hx hb dX6_sheet_63 rfl (lv_at hl0 1 rfl) ?_
              refine ald_q hx hb hK hP1 2 3 rfl rfl rfl 0 rfl (by first | omega | assumption) (by decide) (rfl) dX6_sheet_64 ?_
              refine lv_iload_n hx hb dX6_sheet_65 rfl (lv_at hl0 2 rfl) ?_
              refine lv_iload_n hx hb dX6_sheet_66 rfl (lv_at hl0 2 rfl) ?_
              refine lv_if_ne (tgt := 74) hx hb dX6_sheet_67 (by decide) (fun c_67 => ?_) (fun c_67 => ?_)
              · refine lv_iload_n hx hb dX6_sheet_74 rfl (lv_at hl0 3 rfl) ?_
                refine tp (show (x3) = if x2 = 0 then 0 else x3 from (if_neg c_67).symm) ?_
                refine cV_v (wc := [hO cy (qq 1) (qq 5) (bi 0) (si 0), la cy (qq 5) 40 (f 0)]) (wr := [sO cy hh a kk dd b w ee qq ik, ia cy (hh 1) 7 C, qsB cy qq, hO cy (qq 2) (qq 6) (bi 1) (si 1), hO cy (qq 3) (qq 7) (bi 2) (si 2), hO cy (qq 4) (qq 8) (bi 3) (si 3), la cy (qq 6) 40 (f 1), la cy (qq 7) 40 (f 2), la cy (qq 8) 40 (f 3)]) (rest := []) hx hb hml hown hw hG hK hP1 hD1 hS1 hA hl0 kc_X2_lay kw_4_0 [.int x2, .int (if x2 = 0 then 0 else x3)] (c_X2_lay l D cy G H1.size (qq 1) (qq 5) (bi 0) (si 0) (f 0) x2 (if x2 = 0 then 0 else x3) ((hso 0 (by decide)).2.2)) [3, 7] [0, 1, 2, 4, 5, 6, 8, 9, 10] rfl rfl rfl rfl rfl 0 rfl rfl rfl rfl rfl (Nat.le_of_ble_eq_true rfl) ⟨Nat.le_of_ble_eq_true rfl, Nat.le_of_ble_eq_true rfl⟩ dX6_sheet_75 ⟨Nat.le_of_ble_eq_true rfl, Nat.le_of_ble_eq_true rfl⟩ (fun u9 H2 locs2 hu9 hP2 hD2 hS2 => ?_)
                clear hP1 hD1 hS1 locs1 H1
                replace hP2 : va_P D vwCl ([sO cy hh a kk dd b w ee qq ik, ia cy (hh 1) 7 C, qsB cy qq, hO cy (qq 2) (qq 6) (bi 1) (si 1), hO cy (qq 3) (qq 7) (bi 2) (si 2), hO cy (qq 4) (qq 8) (bi 3) (si 3), la cy (qq 6) 40 (f 1), la cy (qq 7) 40 (f 2), la cy (qq 8) 40 (f 3), hO cy (qq 1) (qq 5) x2 (if x2 = 0 then 0 else x3), la cy (qq 5) 40 (fun _ => 0)]) H2 := hP2
                replace hD2 : va_D (va_A _ sz) ([sO cy hh a kk dd b w ee qq ik, ia cy (hh 1) 7 C, qsB cy qq, hO cy (qq 2) (qq 6) (bi 1) (si 1), hO cy (qq 3) (qq 7) (bi 2) (si 2), hO cy (qq 4) (qq 8) (bi 3) (si 3), la cy (qq 6) 40 (f 1), la cy (qq 7) 40 (f 2), la cy (qq 8) 40 (f 3), hO cy (qq 1) (qq 5) x2 (if x2 = 0 then 0 else x3), la cy (qq 5) 40 (fun _ => 0)]) := hD2
                replace hP2 := hP2.sub (ws' := [sO cy hh a kk dd b w ee qq ik, ia cy (hh 1) 7 C, qsB cy qq, hO cy (qq 1) (qq 5) x2 (if x2 = 0 then 0 else x3), hO cy (qq 2) (qq 6) (bi 1) (si 1), hO cy (qq 3) (qq 7) (bi 2) (si 2), hO cy (qq 4) (qq 8) (bi 3) (si 3), la cy (qq 5) 40 (fun _ => 0), la cy (qq 6) 40 (f 1), la cy (qq 7) 40 (f 2), la cy (qq 8) 40 (f 3)]) [0, 1, 2, 9, 3, 4, 5, 10, 6, 7, 8] rfl
                replace hD2 := hD2.sub (ws' := [sO cy hh a kk dd b w ee qq ik, ia cy (hh 1) 7 C, qsB cy qq, hO cy (qq 1) (qq 5) x2 (if x2 = 0 then 0 else x3), hO cy (qq 2) (qq 6) (bi 1) (si 1), hO cy (qq 3) (qq 7) (bi 2) (si 2), hO cy (qq 4) (qq 8) (bi 3) (si 3), la cy (qq 5) 40 (fun _ => 0), la cy (qq 6) 40 (f 1), la cy (qq 7) 40 (f 2), la cy (qq 8) 40 (f 3)]) [0, 1, 2, 9, 3, 4, 5, 10, 6, 7, 8] (by decide) rfl
                refine lv_aload_n hx hb dX6_sheet_78 rfl (lv_at hl0 0 rfl) ?_
                refine va_get (D := D) (ci := 6) (v := .ref (qq 0)) (C := RX6) (T := TX6) (N := 9) hx hb hw iX6 hown hK hP2 0 rfl rfl 7 (by decide) (hw _ kw_2_34) (fun _ h9 => h9) rfl dX6_sheet_79 ?_
                refine lv_iload_n hx hb dX6_sheet_82 rfl (lv_at hl0 1 rfl) ?_
                refine ald_q hx hb hK hP2 2 3 rfl rfl rfl 0 rfl (by first | omega | assumption) (by decide) (rfl) dX6_sheet_83 ?_
                refine va_get (D := D) (ci := 2) (v := .int (if x2 = 0 then 0 else x3)) (C := RX2) (T := TX2) (N := 3) hx hb hw iX2 hown hK hP2 3 rfl rfl 2 (by decide) (hw _ kw_2_18) (fun _ h9 => h9) rfl dX6_sheet_84 ?_
                replace hP2 : va_P D vwCl ([sO cy hh a kk dd b w ee qq ik, ia cy (hh 1) 7 C] ++ (shB cy qq (va_up bi 0 x2) (va_up si 0 (if x2 = 0 then 0 else x3)) (va_up f 0 (fun _ => 0)))) H2 := hP2
                replace hD2 : va_D (va_A _ sz) ([sO cy hh a kk dd b w ee qq ik, ia cy (hh 1) 7 C] ++ (shB cy qq (va_up bi 0 x2) (va_up si 0 (if x2 = 0 then 0 else x3)) (va_up f 0 (fun _ => 0)))) := hD2
                have hcd : cLay 0 x2 x3 = 7 := by unfold cLay; clear hx hb hml hown hr hlocks hw hsz hA hG hK hP2 hD2 hS2 hl0; grind
                have hq9 : ([sO cy hh a kk dd b w ee qq ik, ia cy (hh 1) 7 C] ++ (shB cy qq (va_up bi 0 x2) (va_up si 0 (if x2 = 0 then 0 else x3)) (va_up f 0 (fun _ => 0)))) = ([sO cy hh a kk dd b w ee qq ik, ia cy (hh 1) 7 (fnd C (cLay 0 x2 x3))] ++ (shB cy qq (va_up bi 0 x2) (va_up si 0 (if x2 = 0 then 0 else x3)) (va_up f 0 (fun _ => 0)))) := congrArg (fun z9 => [sO cy hh a kk dd b w ee qq ik, ia cy (hh 1) 7 z9] ++ (shB cy qq (va_up bi 0 x2) (va_up si 0 (if x2 = 0 then 0 else x3)) (va_up f 0 (fun _ => 0)))) (show C = (fnd C (cLay 0 x2 x3)) from fnd_o hcd)
                replace hP2 := (congrArg (fun z9 => va_P D vwCl z9 _) hq9).mp hP2
                replace hD2 := (congrArg (fun z9 => va_D _ z9) hq9).mp hD2
                clear hq9
                have hq9 : ([sO cy hh a kk dd b w ee qq ik, ia cy (hh 1) 7 (fnd C (cLay 0 x2 x3))] ++ (shB cy qq (va_up bi 0 x2) (va_up si 0 (if x2 = 0 then 0 else x3)) (va_up f 0 (fun _ => 0)))) = ([sO cy hh a kk dd b w ee qq ik, ia cy (hh 1) 7 (fnd C (cLay 0 x2 x3))] ++ (shB cy qq (if cLay 0 x2 x3 = 7 then va_up bi (bstN 0) x2 else bi) (va_up si 0 (if x2 = 0 then 0 else x3)) (va_up f 0 (fun _ => 0)))) := congrArg (fun z9 => [sO cy hh a kk dd b w ee qq ik, ia cy (hh 1) 7 (fnd C (cLay 0 x2 x3))] ++ (shB cy qq z9 (va_up si 0 (if x2 = 0 then 0 else x3)) (va_up f 0 (fun _ => 0)))) (show (va_up bi 0 x2) = (if cLay 0 x2 x3 = 7 then va_up bi (bstN 0) x2 else bi) from by rw [if_pos hcd]; simp only [hb0, hb1, hb2, hb3])
                replace hP2 := (congrArg (fun z9 => va_P D vwCl z9 _) hq9).mp hP2
                replace hD2 := (congrArg (fun z9 => va_D _ z9) hq9).mp hD2
                clear hq9
                have hq9 : ([sO cy hh a kk dd b w ee qq ik, ia cy (hh 1) 7 (fnd C (cLay 0 x2 x3))] ++ (shB cy qq (if cLay 0 x2 x3 = 7 then va_up bi (bstN 0) x2 else bi) (va_up si 0 (if x2 = 0 then 0 else x3)) (va_up f 0 (fun _ => 0)))) = ([sO cy hh a kk dd b w ee qq ik, ia cy (hh 1) 7 (fnd C (cLay 0 x2 x3))] ++ (shB cy qq (if cLay 0 x2 x3 = 7 then va_up bi (bstN 0) x2 else bi) (if cLay 0 x2 x3 = 7 then va_up si (bstN 0) (if x2 = 0 then 0 else x3) else si) (va_up f 0 (fun _ => 0)))) := congrArg (fun z9 => [sO cy hh a kk dd b w ee qq ik, ia cy (hh 1) 7 (fnd C (cLay 0 x2 x3))] ++ (shB cy qq (if cLay 0 x2 x3 = 7 then va_up bi (bstN 0) x2 else bi) z9 (va_up f 0 (fun _ => 0)))) (show (va_up si 0 (if x2 = 0 then 0 else x3)) = (if cLay 0 x2 x3 = 7 then va_up si (bstN 0) (if x2 = 0 then 0 else x3) else si) from by rw [if_pos hcd]; simp only [hb0, hb1, hb2, hb3])
                replace hP2 := (congrArg (fun z9 => va_P D vwCl z9 _) hq9).mp hP2
                replace hD2 := (congrArg (fun z9 => va_D _ z9) hq9).mp hD2
                clear hq9
                have hq9 : ([sO cy hh a kk dd b w ee qq ik, ia cy (hh 1) 7 (fnd C (cLay 0 x2 x3))] ++ (shB cy qq (if cLay 0 x2 x3 = 7 then va_up bi (bstN 0) x2 else bi) (if cLay 0 x2 x3 = 7 then va_up si (bstN 0) (if x2 = 0 then 0 else x3) else si) (va_up f 0 (fun _ => 0)))) = ([sO cy hh a kk dd b w ee qq ik, ia cy (hh 1) 7 (fnd C (cLay 0 x2 x3))] ++ (shB cy qq (if cLay 0 x2 x3 = 7 then va_up bi (bstN 0) x2 else bi) (if cLay 0 x2 x3 = 7 then va_up si (bstN 0) (if x2 = 0 then 0 else x3) else si) (if cLay 0 x2 x3 = 7 then va_up f (bstN 0) (fun _ => 0) else f))) := congrArg (fun z9 => [sO cy hh a kk dd b w ee qq ik, ia cy (hh 1) 7 (fnd C (cLay 0 x2 x3))] ++ (shB cy qq (if cLay 0 x2 x3 = 7 then va_up bi (bstN 0) x2 else bi) (if cLay 0 x2 x3 = 7 then va_up si (bstN 0) (if x2 = 0 then 0 else x3) else si) z9)) (show (va_up f 0 (fun _ => 0)) = (if cLay 0 x2 x3 = 7 then va_up f (bstN 0) (fun _ => 0) else f) from by rw [if_pos hcd]; simp only [hb0, hb1, hb2, hb3])
                replace hP2 := (congrArg (fun z9 => va_P D vwCl z9 _) hq9).mp hP2
                replace hD2 := (congrArg (fun z9 => va_D _ z9) hq9).mp hD2
                clear hq9
                refine re_i () hx hb hr hlocks hP2 hD2 hS2 dX6_sheet_87 ?_
                exact (ans_o hcd (rfl))
              · refine lv_iconst (v := 0) hx hb dX6_sheet_70 (by decide) ?_
                refine lv_goto (tgt := 75) hx hb dX6_sheet_71 (by decide) ?_
                refine tp (show (0) = if x2 = 0 then 0 else x3 from (if_pos c_67).symm) ?_
                refine cV_v (wc := [hO cy (qq 1) (qq 5) (bi 0) (si 0), la cy (qq 5) 40 (f 0)]) (wr := [sO cy hh a kk dd b w ee qq ik, ia cy (hh 1) 7 C, qsB cy qq, hO cy (qq 2) (qq 6) (bi 1) (si 1), hO cy (qq 3) (qq 7) (bi 2) (si 2), hO cy (qq 4) (qq 8) (bi 3) (si 3), la cy (qq 6) 40 (f 1), la cy (qq 7) 40 (f 2), la cy (qq 8) 40 (f 3)]) (rest := []) hx hb hml hown hw hG hK hP1 hD1 hS1 hA hl0 kc_X2_lay kw_4_0 [.int x2, .int (if x2 = 0 then 0 else x3)] (c_X2_lay l D cy G H1.size (qq 1) (qq 5) (bi 0) (si 0) (f 0) x2 (if x2 = 0 then 0 else x3) ((hso 0 (by decide)).2.2)) [3, 7] [0, 1, 2, 4, 5, 6, 8, 9, 10] rfl rfl rfl rfl rfl 0 rfl rfl rfl rfl rfl (Nat.le_of_ble_eq_true rfl) ⟨Nat.le_of_ble_eq_true rfl, Nat.le_of_ble_eq_true rfl⟩ dX6_sheet_75 ⟨Nat.le_of_ble_eq_true rfl, Nat.le_of_ble_eq_true rfl⟩ (fun u9 H2 locs2 hu9 hP2 hD2 hS2 => ?_)
                clear hP1 hD1 hS1 locs1 H1
                replace hP2 : va_P D vwCl ([sO cy hh a kk dd b w ee qq ik, ia cy (hh 1) 7 C, qsB cy qq, hO cy (qq 2) (qq 6) (bi 1) (si 1), hO cy (qq 3) (qq 7) (bi 2) (si 2), hO cy (qq 4) (qq 8) (bi 3) (si 3), la cy (qq 6) 40 (f 1), la cy (qq 7) 40 (f 2), la cy (qq 8) 40 (f 3), hO cy (qq 1) (qq 5) x2 (if x2 = 0 then 0 else x3), la cy (qq 5) 40 (fun _ => 0)]) H2 := hP2
                replace hD2 : va_D (va_A _ sz) ([sO cy hh a kk dd b w ee qq ik, ia cy (hh 1) 7 C, qsB cy qq, hO cy (qq 2) (qq 6) (bi 1) (si 1), hO cy (qq 3) (qq 7) (bi 2) (si 2), hO cy (qq 4) (qq 8) (bi 3) (si 3), la cy (qq 6) 40 (f 1), la cy (qq 7) 40 (f 2), la cy (qq 8) 40 (f 3), hO cy (qq 1) (qq 5) x2 (if x2 = 0 then 0 else x3), la cy (qq 5) 40 (fun _ => 0)]) := hD2
                replace hP2 := hP2.sub (ws' := [sO cy hh a kk dd b w ee qq ik, ia cy (hh 1) 7 C, qsB cy qq, hO cy (qq 1) (qq 5) x2 (if x2 = 0 then 0 else x3), hO cy (qq 2) (qq 6) (bi 1) (si 1), hO cy (qq 3) (qq 7) (bi 2) (si 2), hO cy (qq 4) (qq 8) (bi 3) (si 3), la cy (qq 5) 40 (fun _ => 0), la cy (qq 6) 40 (f 1), la cy (qq 7) 40 (f 2), la cy (qq 8) 40 (f 3)]) [0, 1, 2, 9, 3, 4, 5, 10, 6, 7, 8] rfl
                replace hD2 := hD2.sub (ws' := [sO cy hh a kk dd b w ee qq ik, ia cy (hh 1) 7 C, qsB cy qq, hO cy (qq 1) (qq 5) x2 (if x2 = 0 then 0 else x3), hO cy (qq 2) (qq 6) (bi 1) (si 1), hO cy (qq 3) (qq 7) (bi 2) (si 2), hO cy (qq 4) (qq 8) (bi 3) (si 3), la cy (qq 5) 40 (fun _ => 0), la cy (qq 6) 40 (f 1), la cy (qq 7) 40 (f 2), la cy (qq 8) 40 (f 3)]) [0, 1, 2, 9, 3, 4, 5, 10, 6, 7, 8] (by decide) rfl
                refine lv_aload_n hx hb dX6_sheet_78 rfl (lv_at hl0 0 rfl) ?_
                refine va_get (D := D) (ci := 6) (v := .ref (qq 0)) (C := RX6) (T := TX6) (N := 9) hx hb hw iX6 hown hK hP2 0 rfl rfl 7 (by decide) (hw _ kw_2_34) (fun _ h9 => h9) rfl dX6_sheet_79 ?_
                refine lv_iload_n hx hb dX6_sheet_82 rfl (lv_at hl0 1 rfl) ?_
                refine ald_q hx hb hK hP2 2 3 rfl rfl rfl 0 rfl (by first | omega | assumption) (by decide) (rfl) dX6_sheet_83 ?_
                refine va_get (D := D) (ci := 2) (v := .int (if x2 = 0 then 0 else x3)) (C := RX2) (T := TX2) (N := 3) hx hb hw iX2 hown hK hP2 3 rfl rfl 2 (by decide) (hw _ kw_2_18) (fun _ h9 => h9) rfl dX6_sheet_84 ?_
                replace hP2 : va_P D vwCl ([sO cy hh a kk dd b w ee qq ik, ia cy (hh 1) 7 C] ++ (shB cy qq (va_up bi 0 x2) (va_up si 0 (if x2 = 0 then 0 else x3)) (va_up f 0 (fun _ => 0)))) H2 := hP2
                replace hD2 : va_D (va_A _ sz) ([sO cy hh a kk dd b w ee qq ik, ia cy (hh 1) 7 C] ++ (shB cy qq (va_up bi 0 x2) (va_up si 0 (if x2 = 0 then 0 else x3)) (va_up f 0 (fun _ => 0)))) := hD2
                have hcd : cLay 0 x2 x3 = 7 := by unfold cLay; clear hx hb hml hown hr hlocks hw hsz hA hG hK hP2 hD2 hS2 hl0; grind
                have hq9 : ([sO cy hh a kk dd b w ee qq ik, ia cy (hh 1) 7 C] ++ (shB cy qq (va_up bi 0 x2) (va_up si 0 (if x2 = 0 then 0 else x3)) (va_up f 0 (fun _ => 0)))) = ([sO cy hh a kk dd b w ee qq ik, ia cy (hh 1) 7 (fnd C (cLay 0 x2 x3))] ++ (shB cy qq (va_up bi 0 x2) (va_up si 0 (if x2 = 0 then 0 else x3)) (va_up f 0 (fun _ => 0)))) := congrArg (fun z9 => [sO cy hh a kk dd b w ee qq ik, ia cy (hh 1) 7 z9] ++ (shB cy qq (va_up bi 0 x2) (va_up si 0 (if x2 = 0 then 0 else x3)) (va_up f 0 (fun _ => 0)))) (show C = (fnd C (cLay 0 x2 x3)) from fnd_o hcd)
                replace hP2 := (congrArg (fun z9 => va_P D vwCl z9 _) hq9).mp hP2
                replace hD2 := (congrArg (fun z9 => va_D _ z9) hq9).mp hD2
                clear hq9
                have hq9 : ([sO cy hh a kk dd b w ee qq ik, ia cy (hh 1) 7 (fnd C (cLay 0 x2 x3))] ++ (shB cy qq (va_up bi 0 x2) (va_up si 0 (if x2 = 0 then 0 else x3)) (va_up f 0 (fun _ => 0)))) = ([sO cy hh a kk dd b w ee qq ik, ia cy (hh 1) 7 (fnd C (cLay 0 x2 x3))] ++ (shB cy qq (if cLay 0 x2 x3 = 7 then va_up bi (bstN 0) x2 else bi) (va_up si 0 (if x2 = 0 then 0 else x3)) (va_up f 0 (fun _ => 0)))) := congrArg (fun z9 => [sO cy hh a kk dd b w ee qq ik, ia cy (hh 1) 7 (fnd C (cLay 0 x2 x3))] ++ (shB cy qq z9 (va_up si 0 (if x2 = 0 then 0 else x3)) (va_up f 0 (fun _ => 0)))) (show (va_up bi 0 x2) = (if cLay 0 x2 x3 = 7 then va_up bi (bstN 0) x2 else bi) from by rw [if_pos hcd]; simp only [hb0, hb1, hb2, hb3])
                replace hP2 := (congrArg (fun z9 => va_P D vwCl z9 _) hq9).mp hP2
                replace hD2 := (congrArg (fun z9 => va_D _ z9) hq9).mp hD2
                clear hq9
                have hq9 : ([sO cy hh a kk dd b w ee qq ik, ia cy (hh 1) 7 (fnd C (cLay 0 x2 x3))] ++ (shB cy qq (if cLay 0 x2 x3 = 7 then va_up bi (bstN 0) x2 else bi) (va_up si 0 (if x2 = 0 then 0 else x3)) (va_up f 0 (fun _ => 0)))) = ([sO cy hh a kk dd b w ee qq ik, ia cy (hh 1) 7 (fnd C (cLay 0 x2 x3))] ++ (shB cy qq (if cLay 0 x2 x3 = 7 then va_up bi (bstN 0) x2 else bi) (if cLay 0 x2 x3 = 7 then va_up si (bstN 0) (if x2 = 0 then 0 else x3) else si) (va_up f 0 (fun _ => 0)))) := congrArg (fun z9 => [sO cy hh a kk dd b w ee qq ik, ia cy (hh 1) 7 (fnd C (cLay 0 x2 x3))] ++ (shB cy qq (if cLay 0 x2 x3 = 7 then va_up bi (bstN 0) x2 else bi) z9 (va_up f 0 (fun _ => 0)))) (show (va_up si 0 (if x2 = 0 then 0 else x3)) = (if cLay 0 x2 x3 = 7 then va_up si (bstN 0) (if x2 = 0 then 0 else x3) else si) from by rw [if_pos hcd]; simp only [hb0, hb1, hb2, hb3])
                replace hP2 := (congrArg (fun z9 => va_P D vwCl z9 _) hq9).mp hP2
                replace hD2 := (congrArg (fun z9 => va_D _ z9) hq9).mp hD2
                clear hq9
                have hq9 : ([sO cy hh a kk dd b w ee qq ik, ia cy (hh 1) 7 (fnd C (cLay 0 x2 x3))] ++ (shB cy qq (if cLay 0 x2 x3 = 7 then va_up bi (bstN 0) x2 else bi) (if cLay 0 x2 x3 = 7 then va_up si (bstN 0) (if x2 = 0 then 0 else x3) else si) (va_up f 0 (fun _ => 0)))) = ([sO cy hh a kk dd b w ee qq ik, ia cy (hh 1) 7 (fnd C (cLay 0 x2 x3))] ++ (shB cy qq (if cLay 0 x2 x3 = 7 then va_up bi (bstN 0) x2 else bi) (if cLay 0 x2 x3 = 7 then va_up si (bstN 0) (if x2 = 0 then 0 else x3) else si) (if cLay 0 x2 x3 = 7 then va_up f (bstN 0) (fun _ => 0) else f))) := congrArg (fun z9 => [sO cy hh a kk dd b w ee qq ik, ia cy (hh 1) 7 (fnd C (cLay 0 x2 x3))] ++ (shB cy qq (if cLay 0 x2 x3 = 7 then va_up bi (bstN 0) x2 else bi) (if cLay 0 x2 x3 = 7 then va_up si (bstN 0) (if x2 = 0 then 0 else x3) else si) z9)) (show (va_up f 0 (fun _ => 0)) = (if cLay 0 x2 x3 = 7 then va_up f (bstN 0) (fun _ => 0) else f) from by rw [if_pos hcd]; simp only [hb0, hb1, hb2, hb3])
                replace hP2 := (congrArg (fun z9 => va_P D vwCl z9 _) hq9).mp hP2
                replace hD2 := (congrArg (fun z9 => va_D _ z9) hq9).mp hD2
                clear hq9
                refine re_i () hx hb hr hlocks hP2 hD2 hS2 dX6_sheet_87 ?_
                exact (ans_o hcd (rfl))
            · replace hP1 : va_P D vwCl ([sO cy hh a kk dd b w ee qq ik, ia cy (hh 1) 7 C, qsB cy qq, hO cy (qq 1) (qq 5) (bi 0) (si 0), hO cy (qq 2) (qq 6) (bi 1) (si 1), hO cy (qq 3) (qq 7) (bi 2) (si 2), hO cy (qq 4) (qq 8) (bi 3) (si 3), la cy (qq 5) 40 (f 0), la cy (qq 6) 40 (f 1), la cy (qq 7) 40 (f 2), la cy (qq 8) 40 (f 3)]) H1 := hP1
              replace hD1 : va_D (va_A _ sz) ([sO cy hh a kk dd b w ee qq ik, ia cy (hh 1) 7 C, qsB cy qq, hO cy (qq 1) (qq 5) (bi 0) (si 0), hO cy (qq 2) (qq 6) (bi 1) (si 1), hO cy (qq 3) (qq 7) (bi 2) (si 2), hO cy (qq 4) (qq 8) (bi 3) (si 3), la cy (qq 5) 40 (f 0), la cy (qq 6) 40 (f 1), la cy (qq 7) 40 (f 2), la cy (qq 8) 40 (f 3)]) := hD1
              refine lv_aload_n hx hb dX6_sheet_59 rfl (lv_at hl0 0 rfl) ?_
              refine va_get (D := D) (ci := 6) (v := .ref (qq 0)) (C := RX6) (T := TX6) (N := 9) hx hb hw iX6 hown hK hP1 0 rfl rfl 7 (by decide) (hw _ kw_2_34) (fun _ h9 => h9) rfl dX6_sheet_60 ?_
              refine lv_iload_n hx hb dX6_sheet_63 rfl (lv_at hl0 1 rfl) ?_
              refine ald_q hx hb hK hP1 2 3 rfl rfl rfl 1 rfl (by first | omega | assumption) (by decide) (rfl) dX6_sheet_64 ?_
              refine lv_iload_n hx hb dX6_sheet_65 rfl (lv_at hl0 2 rfl) ?_
              refine lv_iload_n hx hb dX6_sheet_66 rfl (lv_at hl0 2 rfl) ?_
              refine lv_if_ne (tgt := 74) hx hb dX6_sheet_67 (by decide) (fun c_67 => ?_) (fun c_67 => ?_)
              · refine lv_iload_n hx hb dX6_sheet_74 rfl (lv_at hl0 3 rfl) ?_
                refine tp (show (x3) = if x2 = 0 then 0 else x3 from (if_neg c_67).symm) ?_
                refine cV_v (wc := [hO cy (qq 2) (qq 6) (bi 1) (si 1), la cy (qq 6) 40 (f 1)]) (wr := [sO cy hh a kk dd b w ee qq ik, ia cy (hh 1) 7 C, qsB cy qq, hO cy (qq 1) (qq 5) (bi 0) (si 0), hO cy (qq 3) (qq 7) (bi 2) (si 2), hO cy (qq 4) (qq 8) (bi 3) (si 3), la cy (qq 5) 40 (f 0), la cy (qq 7) 40 (f 2), la cy (qq 8) 40 (f 3)]) (rest := []) hx hb hml hown hw hG hK hP1 hD1 hS1 hA hl0 kc_X2_lay kw_4_0 [.int x2, .int (if x2 = 0 then 0 else x3)] (c_X2_lay l D cy G H1.size (qq 2) (qq 6) (bi 1) (si 1) (f 1) x2 (if x2 = 0 then 0 else x3) ((hso 1 (by decide)).2.2)) [4, 8] [0, 1, 2, 3, 5, 6, 7, 9, 10] rfl rfl rfl rfl rfl 0 rfl rfl rfl rfl rfl (Nat.le_of_ble_eq_true rfl) ⟨Nat.le_of_ble_eq_true rfl, Nat.le_of_ble_eq_true rfl⟩ dX6_sheet_75 ⟨Nat.le_of_ble_eq_true rfl, Nat.le_of_ble_eq_true rfl⟩ (fun u9 H2 locs2 hu9 hP2 hD2 hS2 => ?_)
                clear hP1 hD1 hS1 locs1 H1
                replace hP2 : va_P D vwCl ([sO cy hh a kk dd b w ee qq ik, ia cy (hh 1) 7 C, qsB cy qq, hO cy (qq 1) (qq 5) (bi 0) (si 0), hO cy (qq 3) (qq 7) (bi 2) (si 2), hO cy (qq 4) (qq 8) (bi 3) (si 3), la cy (qq 5) 40 (f 0), la cy (qq 7) 40 (f 2), la cy (qq 8) 40 (f 3), hO cy (qq 2) (qq 6) x2 (if x2 = 0 then 0 else x3), la cy (qq 6) 40 (fun _ => 0)]) H2 := hP2
                replace hD2 : va_D (va_A _ sz) ([sO cy hh a kk dd b w ee qq ik, ia cy (hh 1) 7 C, qsB cy qq, hO cy (qq 1) (qq 5) (bi 0) (si 0), hO cy (qq 3) (qq 7) (bi 2) (si 2), hO cy (qq 4) (qq 8) (bi 3) (si 3), la cy (qq 5) 40 (f 0), la cy (qq 7) 40 (f 2), la cy (qq 8) 40 (f 3), hO cy (qq 2) (qq 6) x2 (if x2 = 0 then 0 else x3), la cy (qq 6) 40 (fun _ => 0)]) := hD2
                replace hP2 := hP2.sub (ws' := [sO cy hh a kk dd b w ee qq ik, ia cy (hh 1) 7 C, qsB cy qq, hO cy (qq 1) (qq 5) (bi 0) (si 0), hO cy (qq 2) (qq 6) x2 (if x2 = 0 then 0 else x3), hO cy (qq 3) (qq 7) (bi 2) (si 2), hO cy (qq 4) (qq 8) (bi 3) (si 3), la cy (qq 5) 40 (f 0), la cy (qq 6) 40 (fun _ => 0), la cy (qq 7) 40 (f 2), la cy (qq 8) 40 (f 3)]) [0, 1, 2, 3, 9, 4, 5, 6, 10, 7, 8] rfl
                replace hD2 := hD2.sub (ws' := [sO cy hh a kk dd b w ee qq ik, ia cy (hh 1) 7 C, qsB cy qq, hO cy (qq 1) (qq 5) (bi 0) (si 0), hO cy (qq 2) (qq 6) x2 (if x2 = 0 then 0 else x3), hO cy (qq 3) (qq 7) (bi 2) (si 2), hO cy (qq 4) (qq 8) (bi 3) (si 3), la cy (qq 5) 40 (f 0), la cy (qq 6) 40 (fun _ => 0), la cy (qq 7) 40 (f 2), la cy (qq 8) 40 (f 3)]) [0, 1, 2, 3, 9, 4, 5, 6, 10, 7, 8] (by decide) rfl
                refine lv_aload_n hx hb dX6_sheet_78 rfl (lv_at hl0 0 rfl) ?_
                refine va_get (D := D) (ci := 6) (v := .ref (qq 0)) (C := RX6) (T := TX6) (N := 9) hx hb hw iX6 hown hK hP2 0 rfl rfl 7 (by decide) (hw _ kw_2_34) (fun _ h9 => h9) rfl dX6_sheet_79 ?_
                refine lv_iload_n hx hb dX6_sheet_82 rfl (lv_at hl0 1 rfl) ?_
                refine ald_q hx hb hK hP2 2 3 rfl rfl rfl 1 rfl (by first | omega | assumption) (by decide) (rfl) dX6_sheet_83 ?_
                refine va_get (D := D) (ci := 2) (v := .int (if x2 = 0 then 0 else x3)) (C := RX2) (T := TX2) (N := 3) hx hb hw iX2 hown hK hP2 4 rfl rfl 2 (by decide) (hw _ kw_2_18) (fun _ h9 => h9) rfl dX6_sheet_84 ?_
                replace hP2 : va_P D vwCl ([sO cy hh a kk dd b w ee qq ik, ia cy (hh 1) 7 C] ++ (shB cy qq (va_up bi 1 x2) (va_up si 1 (if x2 = 0 then 0 else x3)) (va_up f 1 (fun _ => 0)))) H2 := hP2
                replace hD2 : va_D (va_A _ sz) ([sO cy hh a kk dd b w ee qq ik, ia cy (hh 1) 7 C] ++ (shB cy qq (va_up bi 1 x2) (va_up si 1 (if x2 = 0 then 0 else x3)) (va_up f 1 (fun _ => 0)))) := hD2
                have hcd : cLay 1 x2 x3 = 7 := by unfold cLay; clear hx hb hml hown hr hlocks hw hsz hA hG hK hP2 hD2 hS2 hl0; grind
                have hq9 : ([sO cy hh a kk dd b w ee qq ik, ia cy (hh 1) 7 C] ++ (shB cy qq (va_up bi 1 x2) (va_up si 1 (if x2 = 0 then 0 else x3)) (va_up f 1 (fun _ => 0)))) = ([sO cy hh a kk dd b w ee qq ik, ia cy (hh 1) 7 (fnd C (cLay 1 x2 x3))] ++ (shB cy qq (va_up bi 1 x2) (va_up si 1 (if x2 = 0 then 0 else x3)) (va_up f 1 (fun _ => 0)))) := congrArg (fun z9 => [sO cy hh a kk dd b w ee qq ik, ia cy (hh 1) 7 z9] ++ (shB cy qq (va_up bi 1 x2) (va_up si 1 (if x2 = 0 then 0 else x3)) (va_up f 1 (fun _ => 0)))) (show C = (fnd C (cLay 1 x2 x3)) from fnd_o hcd)
                replace hP2 := (congrArg (fun z9 => va_P D vwCl z9 _) hq9).mp hP2
                replace hD2 := (congrArg (fun z9 => va_D _ z9) hq9).mp hD2
                clear hq9
                have hq9 : ([sO cy hh a kk dd b w ee qq ik, ia cy (hh 1) 7 (fnd C (cLay 1 x2 x3))] ++ (shB cy qq (va_up bi 1 x2) (va_up si 1 (if x2 = 0 then 0 else x3)) (va_up f 1 (fun _ => 0)))) = ([sO cy hh a kk dd b w ee qq ik, ia cy (hh 1) 7 (fnd C (cLay 1 x2 x3))] ++ (shB cy qq (if cLay 1 x2 x3 = 7 then va_up bi (bstN 1) x2 else bi) (va_up si 1 (if x2 = 0 then 0 else x3)) (va_up f 1 (fun _ => 0)))) := congrArg (fun z9 => [sO cy hh a kk dd b w ee qq ik, ia cy (hh 1) 7 (fnd C (cLay 1 x2 x3))] ++ (shB cy qq z9 (va_up si 1 (if x2 = 0 then 0 else x3)) (va_up f 1 (fun _ => 0)))) (show (va_up bi 1 x2) = (if cLay 1 x2 x3 = 7 then va_up bi (bstN 1) x2 else bi) from by rw [if_pos hcd]; simp only [hb0, hb1, hb2, hb3])
                replace hP2 := (congrArg (fun z9 => va_P D vwCl z9 _) hq9).mp hP2
                replace hD2 := (congrArg (fun z9 => va_D _ z9) hq9).mp hD2
                clear hq9
                have hq9 : ([sO cy hh a kk dd b w ee qq ik, ia cy (hh 1) 7 (fnd C (cLay 1 x2 x3))] ++ (shB cy qq (if cLay 1 x2 x3 = 7 then va_up bi (bstN 1) x2 else bi) (va_up si 1 (if x2 = 0 then 0 else x3)) (va_up f 1 (fun _ => 0)))) = ([sO cy hh a kk dd b w ee qq ik, ia cy (hh 1) 7 (fnd C (cLay 1 x2 x3))] ++ (shB cy qq (if cLay 1 x2 x3 = 7 then va_up bi (bstN 1) x2 else bi) (if cLay 1 x2 x3 = 7 then va_up si (bstN 1) (if x2 = 0 then 0 else x3) else si) (va_up f 1 (fun _ => 0)))) := congrArg (fun z9 => [sO cy hh a kk dd b w ee qq ik, ia cy (hh 1) 7 (fnd C (cLay 1 x2 x3))] ++ (shB cy qq (if cLay 1 x2 x3 = 7 then va_up bi (bstN 1) x2 else bi) z9 (va_up f 1 (fun _ => 0)))) (show (va_up si 1 (if x2 = 0 then 0 else x3)) = (if cLay 1 x2 x3 = 7 then va_up si (bstN 1) (if x2 = 0 then 0 else x3) else si) from by rw [if_pos hcd]; simp only [hb0, hb1, hb2, hb3])
                replace hP2 := (congrArg (fun z9 => va_P D vwCl z9 _) hq9).mp hP2
                replace hD2 := (congrArg (fun z9 => va_D _ z9) hq9).mp hD2
                clear hq9
                have hq9 : ([sO cy hh a kk dd b w ee qq ik, ia cy (hh 1) 7 (fnd C (cLay 1 x2 x3))] ++ (shB cy qq (if cLay 1 x2 x3 = 7 then va_up bi (bstN 1) x2 else bi) (if cLay 1 x2 x3 = 7 then va_up si (bstN 1) (if x2 = 0 then 0 else x3) else si) (va_up f 1 (fun _ => 0)))) = ([sO cy hh a kk dd b w ee qq ik, ia cy (hh 1) 7 (fnd C (cLay 1 x2 x3))] ++ (shB cy qq (if cLay 1 x2 x3 = 7 then va_up bi (bstN 1) x2 else bi) (if cLay 1 x2 x3 = 7 then va_up si (bstN 1) (if x2 = 0 then 0 else x3) else si) (if cLay 1 x2 x3 = 7 then va_up f (bstN 1) (fun _ => 0) else f))) := congrArg (fun z9 => [sO cy hh a kk dd b w ee qq ik, ia cy (hh 1) 7 (fnd C (cLay 1 x2 x3))] ++ (shB cy qq (if cLay 1 x2 x3 = 7 then va_up bi (bstN 1) x2 else bi) (if cLay 1 x2 x3 = 7 then va_up si (bstN 1) (if x2 = 0 then 0 else x3) else si) z9)) (show (va_up f 1 (fun _ => 0)) = (if cLay 1 x2 x3 = 7 then va_up f (bstN 1) (fun _ => 0) else f) from by rw [if_pos hcd]; simp only [hb0, hb1, hb2, hb3])
                replace hP2 := (congrArg (fun z9 => va_P D vwCl z9 _) hq9).mp hP2
                replace hD2 := (congrArg (fun z9 => va_D _ z9) hq9).mp hD2
                clear hq9
                refine re_i () hx hb hr hlocks hP2 hD2 hS2 dX6_sheet_87 ?_
                exact (ans_o hcd (rfl))
              · refine lv_iconst (v := 0) hx hb dX6_sheet_70 (by decide) ?_
                refine lv_goto (tgt := 75) hx hb dX6_sheet_71 (by decide) ?_
                refine tp (show (0) = if x2 = 0 then 0 else x3 from (if_pos c_67).symm) ?_
                refine cV_v (wc := [hO cy (qq 2) (qq 6) (bi 1) (si 1), la cy (qq 6) 40 (f 1)]) (wr := [sO cy hh a kk dd b w ee qq ik, ia cy (hh 1) 7 C, qsB cy qq, hO cy (qq 1) (qq 5) (bi 0) (si 0), hO cy (qq 3) (qq 7) (bi 2) (si 2), hO cy (qq 4) (qq 8) (bi 3) (si 3), la cy (qq 5) 40 (f 0), la cy (qq 7) 40 (f 2), la cy (qq 8) 40 (f 3)]) (rest := []) hx hb hml hown hw hG hK hP1 hD1 hS1 hA hl0 kc_X2_lay kw_4_0 [.int x2, .int (if x2 = 0 then 0 else x3)] (c_X2_lay l D cy G H1.size (qq 2) (qq 6) (bi 1) (si 1) (f 1) x2 (if x2 = 0 then 0 else x3) ((hso 1 (by decide)).2.2)) [4, 8] [0, 1, 2, 3, 5, 6, 7, 9, 10] rfl rfl rfl rfl rfl 0 rfl rfl rfl rfl rfl (Nat.le_of_ble_eq_true rfl) ⟨Nat.le_of_ble_eq_true rfl, Nat.le_of_ble_eq_true rfl⟩ dX6_sheet_75 ⟨Nat.le_of_ble_eq_true rfl, Nat.le_of_ble_eq_true rfl⟩ (fun u9 H2 locs2 hu9 hP2 hD2 hS2 => ?_)
                clear hP1 hD1 hS1 locs1 H1
                replace hP2 : va_P D vwCl ([sO cy hh a kk dd b w ee qq ik, ia cy (hh 1) 7 C, qsB cy qq, hO cy (qq 1) (qq 5) (bi 0) (si 0), hO cy (qq 3) (qq 7) (bi 2) (si 2), hO cy (qq 4) (qq 8) (bi 3) (si 3), la cy (qq 5) 40 (f 0), la cy (qq 7) 40 (f 2), la cy (qq 8) 40 (f 3), hO cy (qq 2) (qq 6) x2 (if x2 = 0 then 0 else x3), la cy (qq 6) 40 (fun _ => 0)]) H2 := hP2
                replace hD2 : va_D (va_A _ sz) ([sO cy hh a kk dd b w ee qq ik, ia cy (hh 1) 7 C, qsB cy qq, hO cy (qq 1) (qq 5) (bi 0) (si 0), hO cy (qq 3) (qq 7) (bi 2) (si 2), hO cy (qq 4) (qq 8) (bi 3) (si 3), la cy (qq 5) 40 (f 0), la cy (qq 7) 40 (f 2), la cy (qq 8) 40 (f 3), hO cy (qq 2) (qq 6) x2 (if x2 = 0 then 0 else x3), la cy (qq 6) 40 (fun _ => 0)]) := hD2
                replace hP2 := hP2.sub (ws' := [sO cy hh a kk dd b w ee qq ik, ia cy (hh 1) 7 C, qsB cy qq, hO cy (qq 1) (qq 5) (bi 0) (si 0), hO cy (qq 2) (qq 6) x2 (if x2 = 0 then 0 else x3), hO cy (qq 3) (qq 7) (bi 2) (si 2), hO cy (qq 4) (qq 8) (bi 3) (si 3), la cy (qq 5) 40 (f 0), la cy (qq 6) 40 (fun _ => 0), la cy (qq 7) 40 (f 2), la cy (qq 8) 40 (f 3)]) [0, 1, 2, 3, 9, 4, 5, 6, 10, 7, 8] rfl
                replace hD2 := hD2.sub (ws' := [sO cy hh a kk dd b w ee qq ik, ia cy (hh 1) 7 C, qsB cy qq, hO cy (qq 1) (qq 5) (bi 0) (si 0), hO cy (qq 2) (qq 6) x2 (if x2 = 0 then 0 else x3), hO cy (qq 3) (qq 7) (bi 2) (si 2), hO cy (qq 4) (qq 8) (bi 3) (si 3), la cy (qq 5) 40 (f 0), la cy (qq 6) 40 (fun _ => 0), la cy (qq 7) 40 (f 2), la cy (qq 8) 40 (f 3)]) [0, 1, 2, 3, 9, 4, 5, 6, 10, 7, 8] (by decide) rfl
                refine lv_aload_n hx hb dX6_sheet_78 rfl (lv_at hl0 0 rfl) ?_
                refine va_get (D := D) (ci := 6) (v := .ref (qq 0)) (C := RX6) (T := TX6) (N := 9) hx hb hw iX6 hown hK hP2 0 rfl rfl 7 (by decide) (hw _ kw_2_34) (fun _ h9 => h9) rfl dX6_sheet_79 ?_
                refine lv_iload_n hx hb dX6_sheet_82 rfl (lv_at hl0 1 rfl) ?_
                refine ald_q hx hb hK hP2 2 3 rfl rfl rfl 1 rfl (by first | omega | assumption) (by decide) (rfl) dX6_sheet_83 ?_
                refine va_get (D := D) (ci := 2) (v := .int (if x2 = 0 then 0 else x3)) (C := RX2) (T := TX2) (N := 3) hx hb hw iX2 hown hK hP2 4 rfl rfl 2 (by decide) (hw _ kw_2_18) (fun _ h9 => h9) rfl dX6_sheet_84 ?_
                replace hP2 : va_P D vwCl ([sO cy hh a kk dd b w ee qq ik, ia cy (hh 1) 7 C] ++ (shB cy qq (va_up bi 1 x2) (va_up si 1 (if x2 = 0 then 0 else x3)) (va_up f 1 (fun _ => 0)))) H2 := hP2
                replace hD2 : va_D (va_A _ sz) ([sO cy hh a kk dd b w ee qq ik, ia cy (hh 1) 7 C] ++ (shB cy qq (va_up bi 1 x2) (va_up si 1 (if x2 = 0 then 0 else x3)) (va_up f 1 (fun _ => 0)))) := hD2
                have hcd : cLay 1 x2 x3 = 7 := by unfold cLay; clear hx hb hml hown hr hlocks hw hsz hA hG hK hP2 hD2 hS2 hl0; grind
                have hq9 : ([sO cy hh a kk dd b w ee qq ik, ia cy (hh 1) 7 C] ++ (shB cy qq (va_up bi 1 x2) (va_up si 1 (if x2 = 0 then 0 else x3)) (va_up f 1 (fun _ => 0)))) = ([sO cy hh a kk dd b w ee qq ik, ia cy (hh 1) 7 (fnd C (cLay 1 x2 x3))] ++ (shB cy qq (va_up bi 1 x2) (va_up si 1 (if x2 = 0 then 0 else x3)) (va_up f 1 (fun _ => 0)))) := congrArg (fun z9 => [sO cy hh a kk dd b w ee qq ik, ia cy (hh 1) 7 z9] ++ (shB cy qq (va_up bi 1 x2) (va_up si 1 (if x2 = 0 then 0 else x3)) (va_up f 1 (fun _ => 0)))) (show C = (fnd C (cLay 1 x2 x3)) from fnd_o hcd)
                replace hP2 := (congrArg (fun z9 => va_P D vwCl z9 _) hq9).mp hP2
                replace hD2 := (congrArg (fun z9 => va_D _ z9) hq9).mp hD2
                clear hq9
                have hq9 : ([sO cy hh a kk dd b w ee qq ik, ia cy (hh 1) 7 (fnd C (cLay 1 x2 x3))] ++ (shB cy qq (va_up bi 1 x2) (va_up si 1 (if x2 = 0 then 0 else x3)) (va_up f 1 (fun _ => 0)))) = ([sO cy hh a kk dd b w ee qq ik, ia cy (hh 1) 7 (fnd C (cLay 1 x2 x3))] ++ (shB cy qq (if cLay 1 x2 x3 = 7 then va_up bi (bstN 1) x2 else bi) (va_up si 1 (if x2 = 0 then 0 else x3)) (va_up f 1 (fun _ => 0)))) := congrArg (fun z9 => [sO cy hh a kk dd b w ee qq ik, ia cy (hh 1) 7 (fnd C (cLay 1 x2 x3))] ++ (shB cy qq z9 (va_up si 1 (if x2 = 0 then 0 else x3)) (va_up f 1 (fun _ => 0)))) (show (va_up bi 1 x2) = (if cLay 1 x2 x3 = 7 then va_up bi (bstN 1) x2 else bi) from by rw [if_pos hcd]; simp only [hb0, hb1, hb2, hb3])
                replace hP2 := (congrArg (fun z9 => va_P D vwCl z9 _) hq9).mp hP2
                replace hD2 := (congrArg (fun z9 => va_D _ z9) hq9).mp hD2
                clear hq9
                have hq9 : ([sO cy hh a kk dd b w ee qq ik, ia cy (hh 1) 7 (fnd C (cLay 1 x2 x3))] ++ (shB cy qq (if cLay 1 x2 x3 = 7 then va_up bi (bstN 1) x2 else bi) (va_up si 1 (if x2 = 0 then 0 else x3)) (va_up f 1 (fun _ => 0)))) = ([sO cy hh a kk dd b w ee qq ik, ia cy (hh 1) 7 (fnd C (cLay 1 x2 x3))] ++ (shB cy qq (if cLay 1 x2 x3 = 7 then va_up bi (bstN 1) x2 else bi) (if cLay 1 x2 x3 = 7 then va_up si (bstN 1) (if x2 = 0 then 0 else x3) else si) (va_up f 1 (fun _ => 0)))) := congrArg (fun z9 => [sO cy hh a kk dd b w ee qq ik, ia cy (hh 1) 7 (fnd C (cLay 1 x2 x3))] ++ (shB cy qq (if cLay 1 x2 x3 = 7 then va_up bi (bstN 1) x2 else bi) z9 (va_up f 1 (fun _ => 0)))) (show (va_up si 1 (if x2 = 0 then 0 else x3)) = (if cLay 1 x2 x3 = 7 then va_up si (bstN 1) (if x2 = 0 then 0 else x3) else si) from by rw [if_pos hcd]; simp only [hb0, hb1, hb2, hb3])
                replace hP2 := (congrArg (fun z9 => va_P D vwCl z9 _) hq9).mp hP2
                replace hD2 := (congrArg (fun z9 => va_D _ z9) hq9).mp hD2
                clear hq9
                have hq9 : ([sO cy hh a kk dd b w ee qq ik, ia cy (hh 1) 7 (fnd C (cLay 1 x2 x3))] ++ (shB cy qq (if cLay 1 x2 x3 = 7 then va_up bi (bstN 1) x2 else bi) (if cLay 1 x2 x3 = 7 then va_up si (bstN 1) (if x2 = 0 then 0 else x3) else si) (va_up f 1 (fun _ => 0)))) = ([sO cy hh a kk dd b w ee qq ik, ia cy (hh 1) 7 (fnd C (cLay 1 x2 x3))] ++ (shB cy qq (if cLay 1 x2 x3 = 7 then va_up bi (bstN 1) x2 else bi) (if cLay 1 x2 x3 = 7 then va_up si (bstN 1) (if x2 = 0 then 0 else x3) else si) (if cLay 1 x2 x3 = 7 then va_up f (bstN 1) (fun _ => 0) else f))) := congrArg (fun z9 => [sO cy hh a kk dd b w ee qq ik, ia cy (hh 1) 7 (fnd C (cLay 1 x2 x3))] ++ (shB cy qq (if cLay 1 x2 x3 = 7 then va_up bi (bstN 1) x2 else bi) (if cLay 1 x2 x3 = 7 then va_up si (bstN 1) (if x2 = 0 then 0 else x3) else si) z9)) (show (va_up f 1 (fun _ => 0)) = (if cLay 1 x2 x3 = 7 then va_up f (bstN 1) (fun _ => 0) else f) from by rw [if_pos hcd]; simp only [hb0, hb1, hb2, hb3])
                replace hP2 := (congrArg (fun z9 => va_P D vwCl z9 _) hq9).mp hP2
                replace hD2 := (congrArg (fun z9 => va_D _ z9) hq9).mp hD2
                clear hq9
                refine re_i () hx hb hr hlocks hP2 hD2 hS2 dX6_sheet_87 ?_
                exact (ans_o hcd (rfl))
            · replace hP1 : va_P D vwCl ([sO cy hh a kk dd b w ee qq ik, ia cy (hh 1) 7 C, qsB cy qq, hO cy (qq 1) (qq 5) (bi 0) (si 0), hO cy (qq 2) (qq 6) (bi 1) (si 1), hO cy (qq 3) (qq 7) (bi 2) (si 2), hO cy (qq 4) (qq 8) (bi 3) (si 3), la cy (qq 5) 40 (f 0), la cy (qq 6) 40 (f 1), la cy (qq 7) 40 (f 2), la cy (qq 8) 40 (f 3)]) H1 := hP1
              replace hD1 : va_D (va_A _ sz) ([sO cy hh a kk dd b w ee qq ik, ia cy (hh 1) 7 C, qsB cy qq, hO cy (qq 1) (qq 5) (bi 0) (si 0), hO cy (qq 2) (qq 6) (bi 1) (si 1), hO cy (qq 3) (qq 7) (bi 2) (si 2), hO cy (qq 4) (qq 8) (bi 3) (si 3), la cy (qq 5) 40 (f 0), la cy (qq 6) 40 (f 1), la cy (qq 7) 40 (f 2), la cy (qq 8) 40 (f 3)]) := hD1
              refine lv_aload_n hx hb dX6_sheet_59 rfl (lv_at hl0 0 rfl) ?_
              refine va_get (D := D) (ci := 6) (v := .ref (qq 0)) (C := RX6) (T := TX6) (N := 9) hx hb hw iX6 hown hK hP1 0 rfl rfl 7 (by decide) (hw _ kw_2_34) (fun _ h9 => h9) rfl dX6_sheet_60 ?_
              refine lv_iload_n hx hb dX6_sheet_63 rfl (lv_at hl0 1 rfl) ?_
              refine ald_q hx hb hK hP1 2 3 rfl rfl rfl 2 rfl (by first | omega | assumption) (by decide) (rfl) dX6_sheet_64 ?_
              refine lv_iload_n hx hb dX6_sheet_65 rfl (lv_at hl0 2 rfl) ?_
              refine lv_iload_n hx hb dX6_sheet_66 rfl (lv_at hl0 2 rfl) ?_
              refine lv_if_ne (tgt := 74) hx hb dX6_sheet_67 (by decide) (fun c_67 => ?_) (fun c_67 => ?_)
              · refine lv_iload_n hx hb dX6_sheet_74 rfl (lv_at hl0 3 rfl) ?_
                refine tp (show (x3) = if x2 = 0 then 0 else x3 from (if_neg c_67).symm) ?_
                refine cV_v (wc := [hO cy (qq 3) (qq 7) (bi 2) (si 2), la cy (qq 7) 40 (f 2)]) (wr := [sO cy hh a kk dd b w ee qq ik, ia cy (hh 1) 7 C, qsB cy qq, hO cy (qq 1) (qq 5) (bi 0) (si 0), hO cy (qq 2) (qq 6) (bi 1) (si 1), hO cy (qq 4) (qq 8) (bi 3) (si 3), la cy (qq 5) 40 (f 0), la cy (qq 6) 40 (f 1), la cy (qq 8) 40 (f 3)]) (rest := []) hx hb hml hown hw hG hK hP1 hD1 hS1 hA hl0 kc_X2_lay kw_4_0 [.int x2, .int (if x2 = 0 then 0 else x3)] (c_X2_lay l D cy G H1.size (qq 3) (qq 7) (bi 2) (si 2) (f 2) x2 (if x2 = 0 then 0 else x3) ((hso 2 (by decide)).2.2)) [5, 9] [0, 1, 2, 3, 4, 6, 7, 8, 10] rfl rfl rfl rfl rfl 0 rfl rfl rfl rfl rfl (Nat.le_of_ble_eq_true rfl) ⟨Nat.le_of_ble_eq_true rfl, Nat.le_of_ble_eq_true rfl⟩ dX6_sheet_75 ⟨Nat.le_of_ble_eq_true rfl, Nat.le_of_ble_eq_true rfl⟩ (fun u9 H2 locs2 hu9 hP2 hD2 hS2 => ?_)
                clear hP1 hD1 hS1 locs1 H1
                replace hP2 : va_P D vwCl ([sO cy hh a kk dd b w ee qq ik, ia cy (hh 1) 7 C, qsB cy qq, hO cy (qq 1) (qq 5) (bi 0) (si 0), hO cy (qq 2) (qq 6) (bi 1) (si 1), hO cy (qq 4) (qq 8) (bi 3) (si 3), la cy (qq 5) 40 (f 0), la cy (qq 6) 40 (f 1), la cy (qq 8) 40 (f 3), hO cy (qq 3) (qq 7) x2 (if x2 = 0 then 0 else x3), la cy (qq 7) 40 (fun _ => 0)]) H2 := hP2
                replace hD2 : va_D (va_A _ sz) ([sO cy hh a kk dd b w ee qq ik, ia cy (hh 1) 7 C, qsB cy qq, hO cy (qq 1) (qq 5) (bi 0) (si 0), hO cy (qq 2) (qq 6) (bi 1) (si 1), hO cy (qq 4) (qq 8) (bi 3) (si 3), la cy (qq 5) 40 (f 0), la cy (qq 6) 40 (f 1), la cy (qq 8) 40 (f 3), hO cy (qq 3) (qq 7) x2 (if x2 = 0 then 0 else x3), la cy (qq 7) 40 (fun _ => 0)]) := hD2
                replace hP2 := hP2.sub (ws' := [sO cy hh a kk dd b w ee qq ik, ia cy (hh 1) 7 C, qsB cy qq, hO cy (qq 1) (qq 5) (bi 0) (si 0), hO cy (qq 2) (qq 6) (bi 1) (si 1), hO cy (qq 3) (qq 7) x2 (if x2 = 0 then 0 else x3), hO cy (qq 4) (qq 8) (bi 3) (si 3), la cy (qq 5) 40 (f 0), la cy (qq 6) 40 (f 1), la cy (qq 7) 40 (fun _ => 0), la cy (qq 8) 40 (f 3)]) [0, 1, 2, 3, 4, 9, 5, 6, 7, 10, 8] rfl
                replace hD2 := hD2.sub (ws' := [sO cy hh a kk dd b w ee qq ik, ia cy (hh 1) 7 C, qsB cy qq, hO cy (qq 1) (qq 5) (bi 0) (si 0), hO cy (qq 2) (qq 6) (bi 1) (si 1), hO cy (qq 3) (qq 7) x2 (if x2 = 0 then 0 else x3), hO cy (qq 4) (qq 8) (bi 3) (si 3), la cy (qq 5) 40 (f 0), la cy (qq 6) 40 (f 1), la cy (qq 7) 40 (fun _ => 0), la cy (qq 8) 40 (f 3)]) [0, 1, 2, 3, 4, 9, 5, 6, 7, 10, 8] (by decide) rfl
                refine lv_aload_n hx hb dX6_sheet_78 rfl (lv_at hl0 0 rfl) ?_
                refine va_get (D := D) (ci := 6) (v := .ref (qq 0)) (C := RX6) (T := TX6) (N := 9) hx hb hw iX6 hown hK hP2 0 rfl rfl 7 (by decide) (hw _ kw_2_34) (fun _ h9 => h9) rfl dX6_sheet_79 ?_
                refine lv_iload_n hx hb dX6_sheet_82 rfl (lv_at hl0 1 rfl) ?_
                refine ald_q hx hb hK hP2 2 3 rfl rfl rfl 2 rfl (by first | omega | assumption) (by decide) (rfl) dX6_sheet_83 ?_
                refine va_get (D := D) (ci := 2) (v := .int (if x2 = 0 then 0 else x3)) (C := RX2) (T := TX2) (N := 3) hx hb hw iX2 hown hK hP2 5 rfl rfl 2 (by decide) (hw _ kw_2_18) (fun _ h9 => h9) rfl dX6_sheet_84 ?_
                replace hP2 : va_P D vwCl ([sO cy hh a kk dd b w ee qq ik, ia cy (hh 1) 7 C] ++ (shB cy qq (va_up bi 2 x2) (va_up si 2 (if x2 = 0 then 0 else x3)) (va_up f 2 (fun _ => 0)))) H2 := hP2
                replace hD2 : va_D (va_A _ sz) ([sO cy hh a kk dd b w ee qq ik, ia cy (hh 1) 7 C] ++ (shB cy qq (va_up bi 2 x2) (va_up si 2 (if x2 = 0 then 0 else x3)) (va_up f 2 (fun _ => 0)))) := hD2
                have hcd : cLay 2 x2 x3 = 7 := by unfold cLay; clear hx hb hml hown hr hlocks hw hsz hA hG hK hP2 hD2 hS2 hl0; grind
                have hq9 : ([sO cy hh a kk dd b w ee qq ik, ia cy (hh 1) 7 C] ++ (shB cy qq (va_up bi 2 x2) (va_up si 2 (if x2 = 0 then 0 else x3)) (va_up f 2 (fun _ => 0)))) = ([sO cy hh a kk dd b w ee qq ik, ia cy (hh 1) 7 (fnd C (cLay 2 x2 x3))] ++ (shB cy qq (va_up bi 2 x2) (va_up si 2 (if x2 = 0 then 0 else x3)) (va_up f 2 (fun _ => 0)))) := congrArg (fun z9 => [sO cy hh a kk dd b w ee qq ik, ia cy (hh 1) 7 z9] ++ (shB cy qq (va_up bi 2 x2) (va_up si 2 (if x2 = 0 then 0 else x3)) (va_up f 2 (fun _ => 0)))) (show C = (fnd C (cLay 2 x2 x3)) from fnd_o hcd)
                replace hP2 := (congrArg (fun z9 => va_P D vwCl z9 _) hq9).mp hP2
                replace hD2 := (congrArg (fun z9 => va_D _ z9) hq9).mp hD2
                clear hq9
                have hq9 : ([sO cy hh a kk dd b w ee qq ik, ia cy (hh 1) 7 (fnd C (cLay 2 x2 x3))] ++ (shB cy qq (va_up bi 2 x2) (va_up si 2 (if x2 = 0 then 0 else x3)) (va_up f 2 (fun _ => 0)))) = ([sO cy hh a kk dd b w ee qq ik, ia cy (hh 1) 7 (fnd C (cLay 2 x2 x3))] ++ (shB cy qq (if cLay 2 x2 x3 = 7 then va_up bi (bstN 2) x2 else bi) (va_up si 2 (if x2 = 0 then 0 else x3)) (va_up f 2 (fun _ => 0)))) := congrArg (fun z9 => [sO cy hh a kk dd b w ee qq ik, ia cy (hh 1) 7 (fnd C (cLay 2 x2 x3))] ++ (shB cy qq z9 (va_up si 2 (if x2 = 0 then 0 else x3)) (va_up f 2 (fun _ => 0)))) (show (va_up bi 2 x2) = (if cLay 2 x2 x3 = 7 then va_up bi (bstN 2) x2 else bi) from by rw [if_pos hcd]; simp only [hb0, hb1, hb2, hb3])
                replace hP2 := (congrArg (fun z9 => va_P D vwCl z9 _) hq9).mp hP2
                replace hD2 := (congrArg (fun z9 => va_D _ z9) hq9).mp hD2
                clear hq9
                have hq9 : ([sO cy hh a kk dd b w ee qq ik, ia cy (hh 1) 7 (fnd C (cLay 2 x2 x3))] ++ (shB cy qq (if cLay 2 x2 x3 = 7 then va_up bi (bstN 2) x2 else bi) (va_up si 2 (if x2 = 0 then 0 else x3)) (va_up f 2 (fun _ => 0)))) = ([sO cy hh a kk dd b w ee qq ik, ia cy (hh 1) 7 (fnd C (cLay 2 x2 x3))] ++ (shB cy qq (if cLay 2 x2 x3 = 7 then va_up bi (bstN 2) x2 else bi) (if cLay 2 x2 x3 = 7 then va_up si (bstN 2) (if x2 = 0 then 0 else x3) else si) (va_up f 2 (fun _ => 0)))) := congrArg (fun z9 => [sO cy hh a kk dd b w ee qq ik, ia cy (hh 1) 7 (fnd C (cLay 2 x2 x3))] ++ (shB cy qq (if cLay 2 x2 x3 = 7 then va_up bi (bstN 2) x2 else bi) z9 (va_up f 2 (fun _ => 0)))) (show (va_up si 2 (if x2 = 0 then 0 else x3)) = (if cLay 2 x2 x3 = 7 then va_up si (bstN 2) (if x2 = 0 then 0 else x3) else si) from by rw [if_pos hcd]; simp only [hb0, hb1, hb2, hb3])
                replace hP2 := (congrArg (fun z9 => va_P D vwCl z9 _) hq9).mp hP2
                replace hD2 := (congrArg (fun z9 => va_D _ z9) hq9).mp hD2
                clear hq9
                have hq9 : ([sO cy hh a kk dd b w ee qq ik, ia cy (hh 1) 7 (fnd C (cLay 2 x2 x3))] ++ (shB cy qq (if cLay 2 x2 x3 = 7 then va_up bi (bstN 2) x2 else bi) (if cLay 2 x2 x3 = 7 then va_up si (bstN 2) (if x2 = 0 then 0 else x3) else si) (va_up f 2 (fun _ => 0)))) = ([sO cy hh a kk dd b w ee qq ik, ia cy (hh 1) 7 (fnd C (cLay 2 x2 x3))] ++ (shB cy qq (if cLay 2 x2 x3 = 7 then va_up bi (bstN 2) x2 else bi) (if cLay 2 x2 x3 = 7 then va_up si (bstN 2) (if x2 = 0 then 0 else x3) else si) (if cLay 2 x2 x3 = 7 then va_up f (bstN 2) (fun _ => 0) else f))) := congrArg (fun z9 => [sO cy hh a kk dd b w ee qq ik, ia cy (hh 1) 7 (fnd C (cLay 2 x2 x3))] ++ (shB cy qq (if cLay 2 x2 x3 = 7 then va_up bi (bstN 2) x2 else bi) (if cLay 2 x2 x3 = 7 then va_up si (bstN 2) (if x2 = 0 then 0 else x3) else si) z9)) (show (va_up f 2 (fun _ => 0)) = (if cLay 2 x2 x3 = 7 then va_up f (bstN 2) (fun _ => 0) else f) from by rw [if_pos hcd]; simp only [hb0, hb1, hb2, hb3])
                replace hP2 := (congrArg (fun z9 => va_P D vwCl z9 _) hq9).mp hP2
                replace hD2 := (congrArg (fun z9 => va_D _ z9) hq9).mp hD2
                clear hq9
                refine re_i () hx hb hr hlocks hP2 hD2 hS2 dX6_sheet_87 ?_
                exact (ans_o hcd (rfl))
              · refine lv_iconst (v := 0) hx hb dX6_sheet_70 (by decide) ?_
                refine lv_goto (tgt := 75) hx hb dX6_sheet_71 (by decide) ?_
                refine tp (show (0) = if x2 = 0 then 0 else x3 from (if_pos c_67).symm) ?_
                refine cV_v (wc := [hO cy (qq 3) (qq 7) (bi 2) (si 2), la cy (qq 7) 40 (f 2)]) (wr := [sO cy hh a kk dd b w ee qq ik, ia cy (hh 1) 7 C, qsB cy qq, hO cy (qq 1) (qq 5) (bi 0) (si 0), hO cy (qq 2) (qq 6) (bi 1) (si 1), hO cy (qq 4) (qq 8) (bi 3) (si 3), la cy (qq 5) 40 (f 0), la cy (qq 6) 40 (f 1), la cy (qq 8) 40 (f 3)]) (rest := []) hx hb hml hown hw hG hK hP1 hD1 hS1 hA hl0 kc_X2_lay kw_4_0 [.int x2, .int (if x2 = 0 then 0 else x3)] (c_X2_lay l D cy G H1.size (qq 3) (qq 7) (bi 2) (si 2) (f 2) x2 (if x2 = 0 then 0 else x3) ((hso 2 (by decide)).2.2)) [5, 9] [0, 1, 2, 3, 4, 6, 7, 8, 10] rfl rfl rfl rfl rfl 0 rfl rfl rfl rfl rfl (Nat.le_of_ble_eq_true rfl) ⟨Nat.le_of_ble_eq_true rfl, Nat.le_of_ble_eq_true rfl⟩ dX6_sheet_75 ⟨Nat.le_of_ble_eq_true rfl, Nat.le_of_ble_eq_true rfl⟩ (fun u9 H2 locs2 hu9 hP2 hD2 hS2 => ?_)
                clear hP1 hD1 hS1 locs1 H1
                replace hP2 : va_P D vwCl ([sO cy hh a kk dd b w ee qq ik, ia cy (hh 1) 7 C, qsB cy qq, hO cy (qq 1) (qq 5) (bi 0) (si 0), hO cy (qq 2) (qq 6) (bi 1) (si 1), hO cy (qq 4) (qq 8) (bi 3) (si 3), la cy (qq 5) 40 (f 0), la cy (qq 6) 40 (f 1), la cy (qq 8) 40 (f 3), hO cy (qq 3) (qq 7) x2 (if x2 = 0 then 0 else x3), la cy (qq 7) 40 (fun _ => 0)]) H2 := hP2
                replace hD2 : va_D (va_A _ sz) ([sO cy hh a kk dd b w ee qq ik, ia cy (hh 1) 7 C, qsB cy qq, hO cy (qq 1) (qq 5) (bi 0) (si 0), hO cy (qq 2) (qq 6) (bi 1) (si 1), hO cy (qq 4) (qq 8) (bi 3) (si 3), la cy (qq 5) 40 (f 0), la cy (qq 6) 40 (f 1), la cy (qq 8) 40 (f 3), hO cy (qq 3) (qq 7) x2 (if x2 = 0 then 0 else x3), la cy (qq 7) 40 (fun _ => 0)]) := hD2
                replace hP2 := hP2.sub (ws' := [sO cy hh a kk dd b w ee qq ik, ia cy (hh 1) 7 C, qsB cy qq, hO cy (qq 1) (qq 5) (bi 0) (si 0), hO cy (qq 2) (qq 6) (bi 1) (si 1), hO cy (qq 3) (qq 7) x2 (if x2 = 0 then 0 else x3), hO cy (qq 4) (qq 8) (bi 3) (si 3), la cy (qq 5) 40 (f 0), la cy (qq 6) 40 (f 1), la cy (qq 7) 40 (fun _ => 0), la cy (qq 8) 40 (f 3)]) [0, 1, 2, 3, 4, 9, 5, 6, 7, 10, 8] rfl
                replace hD2 := hD2.sub (ws' := [sO cy hh a kk dd b w ee qq ik, ia cy (hh 1) 7 C, qsB cy qq, hO cy (qq 1) (qq 5) (bi 0) (si 0), hO cy (qq 2) (qq 6) (bi 1) (si 1), hO cy (qq 3) (qq 7) x2 (if x2 = 0 then 0 else x3), hO cy (qq 4) (qq 8) (bi 3) (si 3), la cy (qq 5) 40 (f 0), la cy (qq 6) 40 (f 1), la cy (qq 7) 40 (fun _ => 0), la cy (qq 8) 40 (f 3)]) [0, 1, 2, 3, 4, 9, 5, 6, 7, 10, 8] (by decide) rfl
                refine lv_aload_n hx hb dX6_sheet_78 rfl (lv_at hl0 0 rfl) ?_
                refine va_get (D := D) (ci := 6) (v := .ref (qq 0)) (C := RX6) (T := TX6) (N := 9) hx hb hw iX6 hown hK hP2 0 rfl rfl 7 (by decide) (hw _ kw_2_34) (fun _ h9 => h9) rfl dX6_sheet_79 ?_
                refine lv_iload_n hx hb dX6_sheet_82 rfl (lv_at hl0 1 rfl) ?_
                refine ald_q hx hb hK hP2 2 3 rfl rfl rfl 2 rfl (by first | omega | assumption) (by decide) (rfl) dX6_sheet_83 ?_
                refine va_get (D := D) (ci := 2) (v := .int (if x2 = 0 then 0 else x3)) (C := RX2) (T := TX2) (N := 3) hx hb hw iX2 hown hK hP2 5 rfl rfl 2 (by decide) (hw _ kw_2_18) (fun _ h9 => h9) rfl dX6_sheet_84 ?_
                replace hP2 : va_P D vwCl ([sO cy hh a kk dd b w ee qq ik, ia cy (hh 1) 7 C] ++ (shB cy qq (va_up bi 2 x2) (va_up si 2 (if x2 = 0 then 0 else x3)) (va_up f 2 (fun _ => 0)))) H2 := hP2
                replace hD2 : va_D (va_A _ sz) ([sO cy hh a kk dd b w ee qq ik, ia cy (hh 1) 7 C] ++ (shB cy qq (va_up bi 2 x2) (va_up si 2 (if x2 = 0 then 0 else x3)) (va_up f 2 (fun _ => 0)))) := hD2
                have hcd : cLay 2 x2 x3 = 7 := by unfold cLay; clear hx hb hml hown hr hlocks hw hsz hA hG hK hP2 hD2 hS2 hl0; grind
                have hq9 : ([sO cy hh a kk dd b w ee qq ik, ia cy (hh 1) 7 C] ++ (shB cy qq (va_up bi 2 x2) (va_up si 2 (if x2 = 0 then 0 else x3)) (va_up f 2 (fun _ => 0)))) = ([sO cy hh a kk dd b w ee qq ik, ia cy (hh 1) 7 (fnd C (cLay 2 x2 x3))] ++ (shB cy qq (va_up bi 2 x2) (va_up si 2 (if x2 = 0 then 0 else x3)) (va_up f 2 (fun _ => 0)))) := congrArg (fun z9 => [sO cy hh a kk dd b w ee qq ik, ia cy (hh 1) 7 z9] ++ (shB cy qq (va_up bi 2 x2) (va_up si 2 (if x2 = 0 then 0 else x3)) (va_up f 2 (fun _ => 0)))) (show C = (fnd C (cLay 2 x2 x3)) from fnd_o hcd)
                replace hP2 := (congrArg (fun z9 => va_P D vwCl z9 _) hq9).mp hP2
                replace hD2 := (congrArg (fun z9 => va_D _ z9) hq9).mp hD2
                clear hq9
                have hq9 : ([sO cy hh a kk dd b w ee qq ik, ia cy (hh 1) 7 (fnd C (cLay 2 x2 x3))] ++ (shB cy qq (va_up bi 2 x2) (va_up si 2 (if x2 = 0 then 0 else x3)) (va_up f 2 (fun _ => 0)))) = ([sO cy hh a kk dd b w ee qq ik, ia cy (hh 1) 7 (fnd C (cLay 2 x2 x3))] ++ (shB cy qq (if cLay 2 x2 x3 = 7 then va_up bi (bstN 2) x2 else bi) (va_up si 2 (if x2 = 0 then 0 else x3)) (va_up f 2 (fun _ => 0)))) := congrArg (fun z9 => [sO cy hh a kk dd b w ee qq ik, ia cy (hh 1) 7 (fnd C (cLay 2 x2 x3))] ++ (shB cy qq z9 (va_up si 2 (if x2 = 0 then 0 else x3)) (va_up f 2 (fun _ => 0)))) (show (va_up bi 2 x2) = (if cLay 2 x2 x3 = 7 then va_up bi (bstN 2) x2 else bi) from by rw [if_pos hcd]; simp only [hb0, hb1, hb2, hb3])
                replace hP2 := (congrArg (fun z9 => va_P D vwCl z9 _) hq9).mp hP2
                replace hD2 := (congrArg (fun z9 => va_D _ z9) hq9).mp hD2
                clear hq9
                have hq9 : ([sO cy hh a kk dd b w ee qq ik, ia cy (hh 1) 7 (fnd C (cLay 2 x2 x3))] ++ (shB cy qq (if cLay 2 x2 x3 = 7 then va_up bi (bstN 2) x2 else bi) (va_up si 2 (if x2 = 0 then 0 else x3)) (va_up f 2 (fun _ => 0)))) = ([sO cy hh a kk dd b w ee qq ik, ia cy (hh 1) 7 (fnd C (cLay 2 x2 x3))] ++ (shB cy qq (if cLay 2 x2 x3 = 7 then va_up bi (bstN 2) x2 else bi) (if cLay 2 x2 x3 = 7 then va_up si (bstN 2) (if x2 = 0 then 0 else x3) else si) (va_up f 2 (fun _ => 0)))) := congrArg (fun z9 => [sO cy hh a kk dd b w ee qq ik, ia cy (hh 1) 7 (fnd C (cLay 2 x2 x3))] ++ (shB cy qq (if cLay 2 x2 x3 = 7 then va_up bi (bstN 2) x2 else bi) z9 (va_up f 2 (fun _ => 0)))) (show (va_up si 2 (if x2 = 0 then 0 else x3)) = (if cLay 2 x2 x3 = 7 then va_up si (bstN 2) (if x2 = 0 then 0 else x3) else si) from by rw [if_pos hcd]; simp only [hb0, hb1, hb2, hb3])
                replace hP2 := (congrArg (fun z9 => va_P D vwCl z9 _) hq9).mp hP2
                replace hD2 := (congrArg (fun z9 => va_D _ z9) hq9).mp hD2
                clear hq9
                have hq9 : ([sO cy hh a kk dd b w ee qq ik, ia cy (hh 1) 7 (fnd C (cLay 2 x2 x3))] ++ (shB cy qq (if cLay 2 x2 x3 = 7 then va_up bi (bstN 2) x2 else bi) (if cLay 2 x2 x3 = 7 then va_up si (bstN 2) (if x2 = 0 then 0 else x3) else si) (va_up f 2 (fun _ => 0)))) = ([sO cy hh a kk dd b w ee qq ik, ia cy (hh 1) 7 (fnd C (cLay 2 x2 x3))] ++ (shB cy qq (if cLay 2 x2 x3 = 7 then va_up bi (bstN 2) x2 else bi) (if cLay 2 x2 x3 = 7 then va_up si (bstN 2) (if x2 = 0 then 0 else x3) else si) (if cLay 2 x2 x3 = 7 then va_up f (bstN 2) (fun _ => 0) else f))) := congrArg (fun z9 => [sO cy hh a kk dd b w ee qq ik, ia cy (hh 1) 7 (fnd C (cLay 2 x2 x3))] ++ (shB cy qq (if cLay 2 x2 x3 = 7 then va_up bi (bstN 2) x2 else bi) (if cLay 2 x2 x3 = 7 then va_up si (bstN 2) (if x2 = 0 then 0 else x3) else si) z9)) (show (va_up f 2 (fun _ => 0)) = (if cLay 2 x2 x3 = 7 then va_up f (bstN 2) (fun _ => 0) else f) from by rw [if_pos hcd]; simp only [hb0, hb1, hb2, hb3])
                replace hP2 := (congrArg (fun z9 => va_P D vwCl z9 _) hq9).mp hP2
                replace hD2 := (congrArg (fun z9 => va_D _ z9) hq9).mp hD2
                clear hq9
                refine re_i () hx hb hr hlocks hP2 hD2 hS2 dX6_sheet_87 ?_
                exact (ans_o hcd (rfl))
            · replace hP1 : va_P D vwCl ([sO cy hh a kk dd b w ee qq ik, ia cy (hh 1) 7 C, qsB cy qq, hO cy (qq 1) (qq 5) (bi 0) (si 0), hO cy (qq 2) (qq 6) (bi 1) (si 1), hO cy (qq 3) (qq 7) (bi 2) (si 2), hO cy (qq 4) (qq 8) (bi 3) (si 3), la cy (qq 5) 40 (f 0), la cy (qq 6) 40 (f 1), la cy (qq 7) 40 (f 2), la cy (qq 8) 40 (f 3)]) H1 := hP1
              replace hD1 : va_D (va_A _ sz) ([sO cy hh a kk dd b w ee qq ik, ia cy (hh 1) 7 C, qsB cy qq, hO cy (qq 1) (qq 5) (bi 0) (si 0), hO cy (qq 2) (qq 6) (bi 1) (si 1), hO cy (qq 3) (qq 7) (bi 2) (si 2), hO cy (qq 4) (qq 8) (bi 3) (si 3), la cy (qq 5) 40 (f 0), la cy (qq 6) 40 (f 1), la cy (qq 7) 40 (f 2), la cy (qq 8) 40 (f 3)]) := hD1
              refine lv_aload_n hx hb dX6_sheet_59 rfl (lv_at hl0 0 rfl) ?_
              refine va_get (D := D) (ci := 6) (v := .ref (qq 0)) (C := RX6) (T := TX6) (N := 9) hx hb hw iX6 hown hK hP1 0 rfl rfl 7 (by decide) (hw _ kw_2_34) (fun _ h9 => h9) rfl dX6_sheet_60 ?_
              refine lv_iload_n hx hb dX6_sheet_63 rfl (lv_at hl0 1 rfl) ?_
              refine ald_q hx hb hK hP1 2 3 rfl rfl rfl 3 rfl (by first | omega | assumption) (by decide) (rfl) dX6_sheet_64 ?_
              refine lv_iload_n hx hb dX6_sheet_65 rfl (lv_at hl0 2 rfl) ?_
              refine lv_iload_n hx hb dX6_sheet_66 rfl (lv_at hl0 2 rfl) ?_
              refine lv_if_ne (tgt := 74) hx hb dX6_sheet_67 (by decide) (fun c_67 => ?_) (fun c_67 => ?_)
              · refine lv_iload_n hx hb dX6_sheet_74 rfl (lv_at hl0 3 rfl) ?_
                refine tp (show (x3) = if x2 = 0 then 0 else x3 from (if_neg c_67).symm) ?_
                refine cV_v (wc := [hO cy (qq 4) (qq 8) (bi 3) (si 3), la cy (qq 8) 40 (f 3)]) (wr := [sO cy hh a kk dd b w ee qq ik, ia cy (hh 1) 7 C, qsB cy qq, hO cy (qq 1) (qq 5) (bi 0) (si 0), hO cy (qq 2) (qq 6) (bi 1) (si 1), hO cy (qq 3) (qq 7) (bi 2) (si 2), la cy (qq 5) 40 (f 0), la cy (qq 6) 40 (f 1), la cy (qq 7) 40 (f 2)]) (rest := []) hx hb hml hown hw hG hK hP1 hD1 hS1 hA hl0 kc_X2_lay kw_4_0 [.int x2, .int (if x2 = 0 then 0 else x3)] (c_X2_lay l D cy G H1.size (qq 4) (qq 8) (bi 3) (si 3) (f 3) x2 (if x2 = 0 then 0 else x3) ((hso 3 (by decide)).2.2)) [6, 10] [0, 1, 2, 3, 4, 5, 7, 8, 9] rfl rfl rfl rfl rfl 0 rfl rfl rfl rfl rfl (Nat.le_of_ble_eq_true rfl) ⟨Nat.le_of_ble_eq_true rfl, Nat.le_of_ble_eq_true rfl⟩ dX6_sheet_75 ⟨Nat.le_of_ble_eq_true rfl, Nat.le_of_ble_eq_true rfl⟩ (fun u9 H2 locs2 hu9 hP2 hD2 hS2 => ?_)
                clear hP1 hD1 hS1 locs1 H1
                replace hP2 : va_P D vwCl ([sO cy hh a kk dd b w ee qq ik, ia cy (hh 1) 7 C, qsB cy qq, hO cy (qq 1) (qq 5) (bi 0) (si 0), hO cy (qq 2) (qq 6) (bi 1) (si 1), hO cy (qq 3) (qq 7) (bi 2) (si 2), la cy (qq 5) 40 (f 0), la cy (qq 6) 40 (f 1), la cy (qq 7) 40 (f 2), hO cy (qq 4) (qq 8) x2 (if x2 = 0 then 0 else x3), la cy (qq 8) 40 (fun _ => 0)]) H2 := hP2
                replace hD2 : va_D (va_A _ sz) ([sO cy hh a kk dd b w ee qq ik, ia cy (hh 1) 7 C, qsB cy qq, hO cy (qq 1) (qq 5) (bi 0) (si 0), hO cy (qq 2) (qq 6) (bi 1) (si 1), hO cy (qq 3) (qq 7) (bi 2) (si 2), la cy (qq 5) 40 (f 0), la cy (qq 6) 40 (f 1), la cy (qq 7) 40 (f 2), hO cy (qq 4) (qq 8) x2 (if x2 = 0 then 0 else x3), la cy (qq 8) 40 (fun _ => 0)]) := hD2
                replace hP2 := hP2.sub (ws' := [sO cy hh a kk dd b w ee qq ik, ia cy (hh 1) 7 C, qsB cy qq, hO cy (qq 1) (qq 5) (bi 0) (si 0), hO cy (qq 2) (qq 6) (bi 1) (si 1), hO cy (qq 3) (qq 7) (bi 2) (si 2), hO cy (qq 4) (qq 8) x2 (if x2 = 0 then 0 else x3), la cy (qq 5) 40 (f 0), la cy (qq 6) 40 (f 1), la cy (qq 7) 40 (f 2), la cy (qq 8) 40 (fun _ => 0)]) [0, 1, 2, 3, 4, 5, 9, 6, 7, 8, 10] rfl
                replace hD2 := hD2.sub (ws' := [sO cy hh a kk dd b w ee qq ik, ia cy (hh 1) 7 C, qsB cy qq, hO cy (qq 1) (qq 5) (bi 0) (si 0), hO cy (qq 2) (qq 6) (bi 1) (si 1), hO cy (qq 3) (qq 7) (bi 2) (si 2), hO cy (qq 4) (qq 8) x2 (if x2 = 0 then 0 else x3), la cy (qq 5) 40 (f 0), la cy (qq 6) 40 (f 1), la cy (qq 7) 40 (f 2), la cy (qq 8) 40 (fun _ => 0)]) [0, 1, 2, 3, 4, 5, 9, 6, 7, 8, 10] (by decide) rfl
                refine lv_aload_n hx hb dX6_sheet_78 rfl (lv_at hl0 0 rfl) ?_
                refine va_get (D := D) (ci := 6) (v := .ref (qq 0)) (C := RX6) (T := TX6) (N := 9) hx hb hw iX6 hown hK hP2 0 rfl rfl 7 (by decide) (hw _ kw_2_34) (fun _ h9 => h9) rfl dX6_sheet_79 ?_
                refine lv_iload_n hx hb dX6_sheet_82 rfl (lv_at hl0 1 rfl) ?_
                refine ald_q hx hb hK hP2 2 3 rfl rfl rfl 3 rfl (by first | omega | assumption) (by decide) (rfl) dX6_sheet_83 ?_
                refine va_get (D := D) (ci := 2) (v := .int (if x2 = 0 then 0 else x3)) (C := RX2) (T := TX2) (N := 3) hx hb hw iX2 hown hK hP2 6 rfl rfl 2 (by decide) (hw _ kw_2_18) (fun _ h9 => h9) rfl dX6_sheet_84 ?_
                replace hP2 : va_P D vwCl ([sO cy hh a kk dd b w ee qq ik, ia cy (hh 1) 7 C] ++ (shB cy qq (va_up bi 3 x2) (va_up si 3 (if x2 = 0 then 0 else x3)) (va_up f 3 (fun _ => 0)))) H2 := hP2
                replace hD2 : va_D (va_A _ sz) ([sO cy hh a kk dd b w ee qq ik, ia cy (hh 1) 7 C] ++ (shB cy qq (va_up bi 3 x2) (va_up si 3 (if x2 = 0 then 0 else x3)) (va_up f 3 (fun _ => 0)))) := hD2
                have hcd : cLay 3 x2 x3 = 7 := by unfold cLay; clear hx hb hml hown hr hlocks hw hsz hA hG hK hP2 hD2 hS2 hl0; grind
                have hq9 : ([sO cy hh a kk dd b w ee qq ik, ia cy (hh 1) 7 C] ++ (shB cy qq (va_up bi 3 x2) (va_up si 3 (if x2 = 0 then 0 else x3)) (va_up f 3 (fun _ => 0)))) = ([sO cy hh a kk dd b w ee qq ik, ia cy (hh 1) 7 (fnd C (cLay 3 x2 x3))] ++ (shB cy qq (va_up bi 3 x2) (va_up si 3 (if x2 = 0 then 0 else x3)) (va_up f 3 (fun _ => 0)))) := congrArg (fun z9 => [sO cy hh a kk dd b w ee qq ik, ia cy (hh 1) 7 z9] ++ (shB cy qq (va_up bi 3 x2) (va_up si 3 (if x2 = 0 then 0 else x3)) (va_up f 3 (fun _ => 0)))) (show C = (fnd C (cLay 3 x2 x3)) from fnd_o hcd)
                replace hP2 := (congrArg (fun z9 => va_P D vwCl z9 _) hq9).mp hP2
                replace hD2 := (congrArg (fun z9 => va_D _ z9) hq9).mp hD2
                clear hq9
                have hq9 : ([sO cy hh a kk dd b w ee qq ik, ia cy (hh 1) 7 (fnd C (cLay 3 x2 x3))] ++ (shB cy qq (va_up bi 3 x2) (va_up si 3 (if x2 = 0 then 0 else x3)) (va_up f 3 (fun _ => 0)))) = ([sO cy hh a kk dd b w ee qq ik, ia cy (hh 1) 7 (fnd C (cLay 3 x2 x3))] ++ (shB cy qq (if cLay 3 x2 x3 = 7 then va_up bi (bstN 3) x2 else bi) (va_up si 3 (if x2 = 0 then 0 else x3)) (va_up f 3 (fun _ => 0)))) := congrArg (fun z9 => [sO cy hh a kk dd b w ee qq ik, ia cy (hh 1) 7 (fnd C (cLay 3 x2 x3))] ++ (shB cy qq z9 (va_up si 3 (if x2 = 0 then 0 else x3)) (va_up f 3 (fun _ => 0)))) (show (va_up bi 3 x2) = (if cLay 3 x2 x3 = 7 then va_up bi (bstN 3) x2 else bi) from by rw [if_pos hcd]; simp only [hb0, hb1, hb2, hb3])
                replace hP2 := (congrArg (fun z9 => va_P D vwCl z9 _) hq9).mp hP2
                replace hD2 := (congrArg (fun z9 => va_D _ z9) hq9).mp hD2
                clear hq9
                have hq9 : ([sO cy hh a kk dd b w ee qq ik, ia cy (hh 1) 7 (fnd C (cLay 3 x2 x3))] ++ (shB cy qq (if cLay 3 x2 x3 = 7 then va_up bi (bstN 3) x2 else bi) (va_up si 3 (if x2 = 0 then 0 else x3)) (va_up f 3 (fun _ => 0)))) = ([sO cy hh a kk dd b w ee qq ik, ia cy (hh 1) 7 (fnd C (cLay 3 x2 x3))] ++ (shB cy qq (if cLay 3 x2 x3 = 7 then va_up bi (bstN 3) x2 else bi) (if cLay 3 x2 x3 = 7 then va_up si (bstN 3) (if x2 = 0 then 0 else x3) else si) (va_up f 3 (fun _ => 0)))) := congrArg (fun z9 => [sO cy hh a kk dd b w ee qq ik, ia cy (hh 1) 7 (fnd C (cLay 3 x2 x3))] ++ (shB cy qq (if cLay 3 x2 x3 = 7 then va_up bi (bstN 3) x2 else bi) z9 (va_up f 3 (fun _ => 0)))) (show (va_up si 3 (if x2 = 0 then 0 else x3)) = (if cLay 3 x2 x3 = 7 then va_up si (bstN 3) (if x2 = 0 then 0 else x3) else si) from by rw [if_pos hcd]; simp only [hb0, hb1, hb2, hb3])
                replace hP2 := (congrArg (fun z9 => va_P D vwCl z9 _) hq9).mp hP2
                replace hD2 := (congrArg (fun z9 => va_D _ z9) hq9).mp hD2
                clear hq9
                have hq9 : ([sO cy hh a kk dd b w ee qq ik, ia cy (hh 1) 7 (fnd C (cLay 3 x2 x3))] ++ (shB cy qq (if cLay 3 x2 x3 = 7 then va_up bi (bstN 3) x2 else bi) (if cLay 3 x2 x3 = 7 then va_up si (bstN 3) (if x2 = 0 then 0 else x3) else si) (va_up f 3 (fun _ => 0)))) = ([sO cy hh a kk dd b w ee qq ik, ia cy (hh 1) 7 (fnd C (cLay 3 x2 x3))] ++ (shB cy qq (if cLay 3 x2 x3 = 7 then va_up bi (bstN 3) x2 else bi) (if cLay 3 x2 x3 = 7 then va_up si (bstN 3) (if x2 = 0 then 0 else x3) else si) (if cLay 3 x2 x3 = 7 then va_up f (bstN 3) (fun _ => 0) else f))) := congrArg (fun z9 => [sO cy hh a kk dd b w ee qq ik, ia cy (hh 1) 7 (fnd C (cLay 3 x2 x3))] ++ (shB cy qq (if cLay 3 x2 x3 = 7 then va_up bi (bstN 3) x2 else bi) (if cLay 3 x2 x3 = 7 then va_up si (bstN 3) (if x2 = 0 then 0 else x3) else si) z9)) (show (va_up f 3 (fun _ => 0)) = (if cLay 3 x2 x3 = 7 then va_up f (bstN 3) (fun _ => 0) else f) from by rw [if_pos hcd]; simp only [hb0, hb1, hb2, hb3])
                replace hP2 := (congrArg (fun z9 => va_P D vwCl z9 _) hq9).mp hP2
                replace hD2 := (congrArg (fun z9 => va_D _ z9) hq9).mp hD2
                clear hq9
                refine re_i () hx hb hr hlocks hP2 hD2 hS2 dX6_sheet_87 ?_
                exact (ans_o hcd (rfl))
              · refine lv_iconst (v := 0) hx hb dX6_sheet_70 (by decide) ?_
                refine lv_goto (tgt := 75) hx hb dX6_sheet_71 (by decide) ?_
                refine tp (show (0) = if x2 = 0 then 0 else x3 from (if_pos c_67).symm) ?_
                refine cV_v (wc := [hO cy (qq 4) (qq 8) (bi 3) (si 3), la cy (qq 8) 40 (f 3)]) (wr := [sO cy hh a kk dd b w ee qq ik, ia cy (hh 1) 7 C, qsB cy qq, hO cy (qq 1) (qq 5) (bi 0) (si 0), hO cy (qq 2) (qq 6) (bi 1) (si 1), hO cy (qq 3) (qq 7) (bi 2) (si 2), la cy (qq 5) 40 (f 0), la cy (qq 6) 40 (f 1), la cy (qq 7) 40 (f 2)]) (rest := []) hx hb hml hown hw hG hK hP1 hD1 hS1 hA hl0 kc_X2_lay kw_4_0 [.int x2, .int (if x2 = 0 then 0 else x3)] (c_X2_lay l D cy G H1.size (qq 4) (qq 8) (bi 3) (si 3) (f 3) x2 (if x2 = 0 then 0 else x3) ((hso 3 (by decide)).2.2)) [6, 10] [0, 1, 2, 3, 4, 5, 7, 8, 9] rfl rfl rfl rfl rfl 0 rfl rfl rfl rfl rfl (Nat.le_of_ble_eq_true rfl) ⟨Nat.le_of_ble_eq_true rfl, Nat.le_of_ble_eq_true rfl⟩ dX6_sheet_75 ⟨Nat.le_of_ble_eq_true rfl, Nat.le_of_ble_eq_true rfl⟩ (fun u9 H2 locs2 hu9 hP2 hD2 hS2 => ?_)
                clear hP1 hD1 hS1 locs1 H1
                replace hP2 : va_P D vwCl ([sO cy hh a kk dd b w ee qq ik, ia cy (hh 1) 7 C, qsB cy qq, hO cy (qq 1) (qq 5) (bi 0) (si 0), hO cy (qq 2) (qq 6) (bi 1) (si 1), hO cy (qq 3) (qq 7) (bi 2) (si 2), la cy (qq 5) 40 (f 0), la cy (qq 6) 40 (f 1), la cy (qq 7) 40 (f 2), hO cy (qq 4) (qq 8) x2 (if x2 = 0 then 0 else x3), la cy (qq 8) 40 (fun _ => 0)]) H2 := hP2
                replace hD2 : va_D (va_A _ sz) ([sO cy hh a kk dd b w ee qq ik, ia cy (hh 1) 7 C, qsB cy qq, hO cy (qq 1) (qq 5) (bi 0) (si 0), hO cy (qq 2) (qq 6) (bi 1) (si 1), hO cy (qq 3) (qq 7) (bi 2) (si 2), la cy (qq 5) 40 (f 0), la cy (qq 6) 40 (f 1), la cy (qq 7) 40 (f 2), hO cy (qq 4) (qq 8) x2 (if x2 = 0 then 0 else x3), la cy (qq 8) 40 (fun _ => 0)]) := hD2
                replace hP2 := hP2.sub (ws' := [sO cy hh a kk dd b w ee qq ik, ia cy (hh 1) 7 C, qsB cy qq, hO cy (qq 1) (qq 5) (bi 0) (si 0), hO cy (qq 2) (qq 6) (bi 1) (si 1), hO cy (qq 3) (qq 7) (bi 2) (si 2), hO cy (qq 4) (qq 8) x2 (if x2 = 0 then 0 else x3), la cy (qq 5) 40 (f 0), la cy (qq 6) 40 (f 1), la cy (qq 7) 40 (f 2), la cy (qq 8) 40 (fun _ => 0)]) [0, 1, 2, 3, 4, 5, 9, 6, 7, 8, 10] rfl
                replace hD2 := hD2.sub (ws' := [sO cy hh a kk dd b w ee qq ik, ia cy (hh 1) 7 C, qsB cy qq, hO cy (qq 1) (qq 5) (bi 0) (si 0), hO cy (qq 2) (qq 6) (bi 1) (si 1), hO cy (qq 3) (qq 7) (bi 2) (si 2), hO cy (qq 4) (qq 8) x2 (if x2 = 0 then 0 else x3), la cy (qq 5) 40 (f 0), la cy (qq 6) 40 (f 1), la cy (qq 7) 40 (f 2), la cy (qq 8) 40 (fun _ => 0)]) [0, 1, 2, 3, 4, 5, 9, 6, 7, 8, 10] (by decide) rfl
                refine lv_aload_n hx hb dX6_sheet_78 rfl (lv_at hl0 0 rfl) ?_
                refine va_get (D := D) (ci := 6) (v := .ref (qq 0)) (C := RX6) (T := TX6) (N := 9) hx hb hw iX6 hown hK hP2 0 rfl rfl 7 (by decide) (hw _ kw_2_34) (fun _ h9 => h9) rfl dX6_sheet_79 ?_
                refine lv_iload_n hx hb dX6_sheet_82 rfl (lv_at hl0 1 rfl) ?_
                refine ald_q hx hb hK hP2 2 3 rfl rfl rfl 3 rfl (by first | omega | assumption) (by decide) (rfl) dX6_sheet_83 ?_
                refine va_get (D := D) (ci := 2) (v := .int (if x2 = 0 then 0 else x3)) (C := RX2) (T := TX2) (N := 3) hx hb hw iX2 hown hK hP2 6 rfl rfl 2 (by decide) (hw _ kw_2_18) (fun _ h9 => h9) rfl dX6_sheet_84 ?_
                replace hP2 : va_P D vwCl ([sO cy hh a kk dd b w ee qq ik, ia cy (hh 1) 7 C] ++ (shB cy qq (va_up bi 3 x2) (va_up si 3 (if x2 = 0 then 0 else x3)) (va_up f 3 (fun _ => 0)))) H2 := hP2
                replace hD2 : va_D (va_A _ sz) ([sO cy hh a kk dd b w ee qq ik, ia cy (hh 1) 7 C] ++ (shB cy qq (va_up bi 3 x2) (va_up si 3 (if x2 = 0 then 0 else x3)) (va_up f 3 (fun _ => 0)))) := hD2
                have hcd : cLay 3 x2 x3 = 7 := by unfold cLay; clear hx hb hml hown hr hlocks hw hsz hA hG hK hP2 hD2 hS2 hl0; grind
                have hq9 : ([sO cy hh a kk dd b w ee qq ik, ia cy (hh 1) 7 C] ++ (shB cy qq (va_up bi 3 x2) (va_up si 3 (if x2 = 0 then 0 else x3)) (va_up f 3 (fun _ => 0)))) = ([sO cy hh a kk dd b w ee qq ik, ia cy (hh 1) 7 (fnd C (cLay 3 x2 x3))] ++ (shB cy qq (va_up bi 3 x2) (va_up si 3 (if x2 = 0 then 0 else x3)) (va_up f 3 (fun _ => 0)))) := congrArg (fun z9 => [sO cy hh a kk dd b w ee qq ik, ia cy (hh 1) 7 z9] ++ (shB cy qq (va_up bi 3 x2) (va_up si 3 (if x2 = 0 then 0 else x3)) (va_up f 3 (fun _ => 0)))) (show C = (fnd C (cLay 3 x2 x3)) from fnd_o hcd)
                replace hP2 := (congrArg (fun z9 => va_P D vwCl z9 _) hq9).mp hP2
                replace hD2 := (congrArg (fun z9 => va_D _ z9) hq9).mp hD2
                clear hq9
                have hq9 : ([sO cy hh a kk dd b w ee qq ik, ia cy (hh 1) 7 (fnd C (cLay 3 x2 x3))] ++ (shB cy qq (va_up bi 3 x2) (va_up si 3 (if x2 = 0 then 0 else x3)) (va_up f 3 (fun _ => 0)))) = ([sO cy hh a kk dd b w ee qq ik, ia cy (hh 1) 7 (fnd C (cLay 3 x2 x3))] ++ (shB cy qq (if cLay 3 x2 x3 = 7 then va_up bi (bstN 3) x2 else bi) (va_up si 3 (if x2 = 0 then 0 else x3)) (va_up f 3 (fun _ => 0)))) := congrArg (fun z9 => [sO cy hh a kk dd b w ee qq ik, ia cy (hh 1) 7 (fnd C (cLay 3 x2 x3))] ++ (shB cy qq z9 (va_up si 3 (if x2 = 0 then 0 else x3)) (va_up f 3 (fun _ => 0)))) (show (va_up bi 3 x2) = (if cLay 3 x2 x3 = 7 then va_up bi (bstN 3) x2 else bi) from by rw [if_pos hcd]; simp only [hb0, hb1, hb2, hb3])
                replace hP2 := (congrArg (fun z9 => va_P D vwCl z9 _) hq9).mp hP2
                replace hD2 := (congrArg (fun z9 => va_D _ z9) hq9).mp hD2
                clear hq9
                have hq9 : ([sO cy hh a kk dd b w ee qq ik, ia cy (hh 1) 7 (fnd C (cLay 3 x2 x3))] ++ (shB cy qq (if cLay 3 x2 x3 = 7 then va_up bi (bstN 3) x2 else bi) (va_up si 3 (if x2 = 0 then 0 else x3)) (va_up f 3 (fun _ => 0)))) = ([sO cy hh a kk dd b w ee qq ik, ia cy (hh 1) 7 (fnd C (cLay 3 x2 x3))] ++ (shB cy qq (if cLay 3 x2 x3 = 7 then va_up bi (bstN 3) x2 else bi) (if cLay 3 x2 x3 = 7 then va_up si (bstN 3) (if x2 = 0 then 0 else x3) else si) (va_up f 3 (fun _ => 0)))) := congrArg (fun z9 => [sO cy hh a kk dd b w ee qq ik, ia cy (hh 1) 7 (fnd C (cLay 3 x2 x3))] ++ (shB cy qq (if cLay 3 x2 x3 = 7 then va_up bi (bstN 3) x2 else bi) z9 (va_up f 3 (fun _ => 0)))) (show (va_up si 3 (if x2 = 0 then 0 else x3)) = (if cLay 3 x2 x3 = 7 then va_up si (bstN 3) (if x2 = 0 then 0 else x3) else si) from by rw [if_pos hcd]; simp only [hb0, hb1, hb2, hb3])
                replace hP2 := (congrArg (fun z9 => va_P D vwCl z9 _) hq9).mp hP2
                replace hD2 := (congrArg (fun z9 => va_D _ z9) hq9).mp hD2
                clear hq9
                have hq9 : ([sO cy hh a kk dd b w ee qq ik, ia cy (hh 1) 7 (fnd C (cLay 3 x2 x3))] ++ (shB cy qq (if cLay 3 x2 x3 = 7 then va_up bi (bstN 3) x2 else bi) (if cLay 3 x2 x3 = 7 then va_up si (bstN 3) (if x2 = 0 then 0 else x3) else si) (va_up f 3 (fun _ => 0)))) = ([sO cy hh a kk dd b w ee qq ik, ia cy (hh 1) 7 (fnd C (cLay 3 x2 x3))] ++ (shB cy qq (if cLay 3 x2 x3 = 7 then va_up bi (bstN 3) x2 else bi) (if cLay 3 x2 x3 = 7 then va_up si (bstN 3) (if x2 = 0 then 0 else x3) else si) (if cLay 3 x2 x3 = 7 then va_up f (bstN 3) (fun _ => 0) else f))) := congrArg (fun z9 => [sO cy hh a kk dd b w ee qq ik, ia cy (hh 1) 7 (fnd C (cLay 3 x2 x3))] ++ (shB cy qq (if cLay 3 x2 x3 = 7 then va_up bi (bstN 3) x2 else bi) (if cLay 3 x2 x3 = 7 then va_up si (bstN 3) (if x2 = 0 then 0 else x3) else si) z9)) (show (va_up f 3 (fun _ => 0)) = (if cLay 3 x2 x3 = 7 then va_up f (bstN 3) (fun _ => 0) else f) from by rw [if_pos hcd]; simp only [hb0, hb1, hb2, hb3])
                replace hP2 := (congrArg (fun z9 => va_P D vwCl z9 _) hq9).mp hP2
                replace hD2 := (congrArg (fun z9 => va_D _ z9) hq9).mp hD2
                clear hq9
                refine re_i () hx hb hr hlocks hP2 hD2 hS2 dX6_sheet_87 ?_
                exact (ans_o hcd (rfl))
          · refine lv_aload_n hx hb dX6_sheet_53 rfl (lv_at hl0 0 rfl) ?_
            refine lv_iconst (v := 0) hx hb dX6_sheet_54 (by decide) ?_
            refine cV_i (wc := [sO cy hh a kk dd b w ee qq ik, ia cy (hh 1) 7 C]) (wr := shB cy qq bi si f) (rest := []) hx hb hml hown hw hG hK hP1 hD1 hS1 hA hl0 kc_X6_find kw_2_59 [.int 0] (c_X6_find l D cy G H1.size hh a kk dd b w ee qq ik C 0 (by first | omega | assumption)) [0, 1] [2, 3, 4, 5, 6, 7, 8, 9, 10] rfl rfl rfl rfl rfl 0 rfl rfl rfl rfl rfl (Nat.le_of_ble_eq_true rfl) ⟨Nat.le_of_ble_eq_true rfl, Nat.le_of_ble_eq_true rfl⟩ dX6_sheet_55 ⟨Nat.le_of_ble_eq_true rfl, Nat.le_of_ble_eq_true rfl⟩ (fun r_55 u9 H2 locs2 hu9 hP2 hD2 hS2 => ?_)
            clear hP1 hD1 hS1 locs1 H1
            have hr_55 := hu9
            replace hP2 : va_P D vwCl (shB cy qq bi si f ++ ([sO cy hh a kk dd b w ee qq ik, ia cy (hh 1) 7 (upd C 0 (C 0 + 1))])) H2 := hP2
            replace hD2 : va_D (va_A _ sz) (shB cy qq bi si f ++ ([sO cy hh a kk dd b w ee qq ik, ia cy (hh 1) 7 (upd C 0 (C 0 + 1))])) := hD2
            replace hP2 := hP2.sub (ws' := [sO cy hh a kk dd b w ee qq ik, ia cy (hh 1) 7 (upd C 0 (C 0 + 1))] ++ (shB cy qq bi si f)) [9, 10, 0, 1, 2, 3, 4, 5, 6, 7, 8] rfl
            replace hD2 := hD2.sub (ws' := [sO cy hh a kk dd b w ee qq ik, ia cy (hh 1) 7 (upd C 0 (C 0 + 1))] ++ (shB cy qq bi si f)) [9, 10, 0, 1, 2, 3, 4, 5, 6, 7, 8] (by decide) rfl
            subst hr_55
            have hcd : cLay x1 x2 x3 = 0 := by unfold cLay; clear hx hb hml hown hr hlocks hw hsz hA hG hK hP2 hD2 hS2 hl0; grind
            have hq9 : ([sO cy hh a kk dd b w ee qq ik, ia cy (hh 1) 7 (upd C 0 (C 0 + 1))] ++ (shB cy qq bi si f)) = ([sO cy hh a kk dd b w ee qq ik, ia cy (hh 1) 7 (fnd C (cLay x1 x2 x3))] ++ (shB cy qq bi si f)) := congrArg (fun z9 => [sO cy hh a kk dd b w ee qq ik, ia cy (hh 1) 7 z9] ++ (shB cy qq bi si f)) (show (upd C 0 (C 0 + 1)) = (fnd C (cLay x1 x2 x3)) from fnd_f hcd (by decide))
            replace hP2 := (congrArg (fun z9 => va_P D vwCl z9 _) hq9).mp hP2
            replace hD2 := (congrArg (fun z9 => va_D _ z9) hq9).mp hD2
            clear hq9
            have hq9 : ([sO cy hh a kk dd b w ee qq ik, ia cy (hh 1) 7 (fnd C (cLay x1 x2 x3))] ++ (shB cy qq bi si f)) = ([sO cy hh a kk dd b w ee qq ik, ia cy (hh 1) 7 (fnd C (cLay x1 x2 x3))] ++ (shB cy qq (if cLay x1 x2 x3 = 7 then va_up bi (bstN x1) x2 else bi) si f)) := congrArg (fun z9 => [sO cy hh a kk dd b w ee qq ik, ia cy (hh 1) 7 (fnd C (cLay x1 x2 x3))] ++ (shB cy qq z9 si f)) (show bi = (if cLay x1 x2 x3 = 7 then va_up bi (bstN x1) x2 else bi) from (if_neg (fun z9 => absurd (hcd.symm.trans z9) (by decide))).symm)
            replace hP2 := (congrArg (fun z9 => va_P D vwCl z9 _) hq9).mp hP2
            replace hD2 := (congrArg (fun z9 => va_D _ z9) hq9).mp hD2
            clear hq9
            have hq9 : ([sO cy hh a kk dd b w ee qq ik, ia cy (hh 1) 7 (fnd C (cLay x1 x2 x3))] ++ (shB cy qq (if cLay x1 x2 x3 = 7 then va_up bi (bstN x1) x2 else bi) si f)) = ([sO cy hh a kk dd b w ee qq ik, ia cy (hh 1) 7 (fnd C (cLay x1 x2 x3))] ++ (shB cy qq (if cLay x1 x2 x3 = 7 then va_up bi (bstN x1) x2 else bi) (if cLay x1 x2 x3 = 7 then va_up si (bstN x1) (if x2 = 0 then 0 else x3) else si) f)) := congrArg (fun z9 => [sO cy hh a kk dd b w ee qq ik, ia cy (hh 1) 7 (fnd C (cLay x1 x2 x3))] ++ (shB cy qq (if cLay x1 x2 x3 = 7 then va_up bi (bstN x1) x2 else bi) z9 f)) (show si = (if cLay x1 x2 x3 = 7 then va_up si (bstN x1) (if x2 = 0 then 0 else x3) else si) from (if_neg (fun z9 => absurd (hcd.symm.trans z9) (by decide))).symm)
            replace hP2 := (congrArg (fun z9 => va_P D vwCl z9 _) hq9).mp hP2
            replace hD2 := (congrArg (fun z9 => va_D _ z9) hq9).mp hD2
            clear hq9
            have hq9 : ([sO cy hh a kk dd b w ee qq ik, ia cy (hh 1) 7 (fnd C (cLay x1 x2 x3))] ++ (shB cy qq (if cLay x1 x2 x3 = 7 then va_up bi (bstN x1) x2 else bi) (if cLay x1 x2 x3 = 7 then va_up si (bstN x1) (if x2 = 0 then 0 else x3) else si) f)) = ([sO cy hh a kk dd b w ee qq ik, ia cy (hh 1) 7 (fnd C (cLay x1 x2 x3))] ++ (shB cy qq (if cLay x1 x2 x3 = 7 then va_up bi (bstN x1) x2 else bi) (if cLay x1 x2 x3 = 7 then va_up si (bstN x1) (if x2 = 0 then 0 else x3) else si) (if cLay x1 x2 x3 = 7 then va_up f (bstN x1) (fun _ => 0) else f))) := congrArg (fun z9 => [sO cy hh a kk dd b w ee qq ik, ia cy (hh 1) 7 (fnd C (cLay x1 x2 x3))] ++ (shB cy qq (if cLay x1 x2 x3 = 7 then va_up bi (bstN x1) x2 else bi) (if cLay x1 x2 x3 = 7 then va_up si (bstN x1) (if x2 = 0 then 0 else x3) else si) z9)) (show f = (if cLay x1 x2 x3 = 7 then va_up f (bstN x1) (fun _ => 0) else f) from (if_neg (fun z9 => absurd (hcd.symm.trans z9) (by decide))).symm)
            replace hP2 := (congrArg (fun z9 => va_P D vwCl z9 _) hq9).mp hP2
            replace hD2 := (congrArg (fun z9 => va_D _ z9) hq9).mp hD2
            clear hq9
            refine re_i () hx hb hr hlocks hP2 hD2 hS2 dX6_sheet_58 ?_
            exact (ans_f hcd (by decide) rfl)
        · refine lv_aload_n hx hb dX6_sheet_40 rfl (lv_at hl0 0 rfl) ?_
          refine lv_bipush (v := 6) hx hb dX6_sheet_41 (by decide) ?_
          refine cV_i (wc := [sO cy hh a kk dd b w ee qq ik, ia cy (hh 1) 7 C]) (wr := shB cy qq bi si f) (rest := []) hx hb hml hown hw hG hK hP1 hD1 hS1 hA hl0 kc_X6_find kw_2_59 [.int 6] (c_X6_find l D cy G H1.size hh a kk dd b w ee qq ik C 6 (by first | omega | assumption)) [0, 1] [2, 3, 4, 5, 6, 7, 8, 9, 10] rfl rfl rfl rfl rfl 0 rfl rfl rfl rfl rfl (Nat.le_of_ble_eq_true rfl) ⟨Nat.le_of_ble_eq_true rfl, Nat.le_of_ble_eq_true rfl⟩ dX6_sheet_43 ⟨Nat.le_of_ble_eq_true rfl, Nat.le_of_ble_eq_true rfl⟩ (fun r_43 u9 H2 locs2 hu9 hP2 hD2 hS2 => ?_)
          clear hP1 hD1 hS1 locs1 H1
          have hr_43 := hu9
          replace hP2 : va_P D vwCl (shB cy qq bi si f ++ ([sO cy hh a kk dd b w ee qq ik, ia cy (hh 1) 7 (upd C 6 (C 6 + 1))])) H2 := hP2
          replace hD2 : va_D (va_A _ sz) (shB cy qq bi si f ++ ([sO cy hh a kk dd b w ee qq ik, ia cy (hh 1) 7 (upd C 6 (C 6 + 1))])) := hD2
          replace hP2 := hP2.sub (ws' := [sO cy hh a kk dd b w ee qq ik, ia cy (hh 1) 7 (upd C 6 (C 6 + 1))] ++ (shB cy qq bi si f)) [9, 10, 0, 1, 2, 3, 4, 5, 6, 7, 8] rfl
          replace hD2 := hD2.sub (ws' := [sO cy hh a kk dd b w ee qq ik, ia cy (hh 1) 7 (upd C 6 (C 6 + 1))] ++ (shB cy qq bi si f)) [9, 10, 0, 1, 2, 3, 4, 5, 6, 7, 8] (by decide) rfl
          subst hr_43
          have hcd : cLay x1 x2 x3 = 6 := by unfold cLay; clear hx hb hml hown hr hlocks hw hsz hA hG hK hP2 hD2 hS2 hl0; grind
          have hq9 : ([sO cy hh a kk dd b w ee qq ik, ia cy (hh 1) 7 (upd C 6 (C 6 + 1))] ++ (shB cy qq bi si f)) = ([sO cy hh a kk dd b w ee qq ik, ia cy (hh 1) 7 (fnd C (cLay x1 x2 x3))] ++ (shB cy qq bi si f)) := congrArg (fun z9 => [sO cy hh a kk dd b w ee qq ik, ia cy (hh 1) 7 z9] ++ (shB cy qq bi si f)) (show (upd C 6 (C 6 + 1)) = (fnd C (cLay x1 x2 x3)) from fnd_f hcd (by decide))
          replace hP2 := (congrArg (fun z9 => va_P D vwCl z9 _) hq9).mp hP2
          replace hD2 := (congrArg (fun z9 => va_D _ z9) hq9).mp hD2
          clear hq9
          have hq9 : ([sO cy hh a kk dd b w ee qq ik, ia cy (hh 1) 7 (fnd C (cLay x1 x2 x3))] ++ (shB cy qq bi si f)) = ([sO cy hh a kk dd b w ee qq ik, ia cy (hh 1) 7 (fnd C (cLay x1 x2 x3))] ++ (shB cy qq (if cLay x1 x2 x3 = 7 then va_up bi (bstN x1) x2 else bi) si f)) := congrArg (fun z9 => [sO cy hh a kk dd b w ee qq ik, ia cy (hh 1) 7 (fnd C (cLay x1 x2 x3))] ++ (shB cy qq z9 si f)) (show bi = (if cLay x1 x2 x3 = 7 then va_up bi (bstN x1) x2 else bi) from (if_neg (fun z9 => absurd (hcd.symm.trans z9) (by decide))).symm)
          replace hP2 := (congrArg (fun z9 => va_P D vwCl z9 _) hq9).mp hP2
          replace hD2 := (congrArg (fun z9 => va_D _ z9) hq9).mp hD2
          clear hq9
          have hq9 : ([sO cy hh a kk dd b w ee qq ik, ia cy (hh 1) 7 (fnd C (cLay x1 x2 x3))] ++ (shB cy qq (if cLay x1 x2 x3 = 7 then va_up bi (bstN x1) x2 else bi) si f)) = ([sO cy hh a kk dd b w ee qq ik, ia cy (hh 1) 7 (fnd C (cLay x1 x2 x3))] ++ (shB cy qq (if cLay x1 x2 x3 = 7 then va_up bi (bstN x1) x2 else bi) (if cLay x1 x2 x3 = 7 then va_up si (bstN x1) (if x2 = 0 then 0 else x3) else si) f)) := congrArg (fun z9 => [sO cy hh a kk dd b w ee qq ik, ia cy (hh 1) 7 (fnd C (cLay x1 x2 x3))] ++ (shB cy qq (if cLay x1 x2 x3 = 7 then va_up bi (bstN x1) x2 else bi) z9 f)) (show si = (if cLay x1 x2 x3 = 7 then va_up si (bstN x1) (if x2 = 0 then 0 else x3) else si) from (if_neg (fun z9 => absurd (hcd.symm.trans z9) (by decide))).symm)
          replace hP2 := (congrArg (fun z9 => va_P D vwCl z9 _) hq9).mp hP2
          replace hD2 := (congrArg (fun z9 => va_D _ z9) hq9).mp hD2
          clear hq9
          have hq9 : ([sO cy hh a kk dd b w ee qq ik, ia cy (hh 1) 7 (fnd C (cLay x1 x2 x3))] ++ (shB cy qq (if cLay x1 x2 x3 = 7 then va_up bi (bstN x1) x2 else bi) (if cLay x1 x2 x3 = 7 then va_up si (bstN x1) (if x2 = 0 then 0 else x3) else si) f)) = ([sO cy hh a kk dd b w ee qq ik, ia cy (hh 1) 7 (fnd C (cLay x1 x2 x3))] ++ (shB cy qq (if cLay x1 x2 x3 = 7 then va_up bi (bstN x1) x2 else bi) (if cLay x1 x2 x3 = 7 then va_up si (bstN x1) (if x2 = 0 then 0 else x3) else si) (if cLay x1 x2 x3 = 7 then va_up f (bstN x1) (fun _ => 0) else f))) := congrArg (fun z9 => [sO cy hh a kk dd b w ee qq ik, ia cy (hh 1) 7 (fnd C (cLay x1 x2 x3))] ++ (shB cy qq (if cLay x1 x2 x3 = 7 then va_up bi (bstN x1) x2 else bi) (if cLay x1 x2 x3 = 7 then va_up si (bstN x1) (if x2 = 0 then 0 else x3) else si) z9)) (show f = (if cLay x1 x2 x3 = 7 then va_up f (bstN x1) (fun _ => 0) else f) from (if_neg (fun z9 => absurd (hcd.symm.trans z9) (by decide))).symm)
          replace hP2 := (congrArg (fun z9 => va_P D vwCl z9 _) hq9).mp hP2
          replace hD2 := (congrArg (fun z9 => va_D _ z9) hq9).mp hD2
          clear hq9
          refine re_i () hx hb hr hlocks hP2 hD2 hS2 dX6_sheet_46 ?_
          exact (ans_f hcd (by decide) rfl)
      · refine lv_iload_n hx hb dX6_sheet_18 rfl (lv_at hl0 2 rfl) ?_
        refine lv_bipush (v := 16) hx hb dX6_sheet_19 (by decide) ?_
        refine lv_icmp_eq (tgt := 36) hx hb dX6_sheet_21 (by decide) (fun c_21 => ?_) (fun c_21 => ?_)
        · refine lv_iload_n hx hb dX6_sheet_36 rfl (lv_at hl0 3 rfl) ?_
          refine lv_if_ge (tgt := 47) hx hb dX6_sheet_37 (by decide) (fun c_37 => ?_) (fun c_37 => ?_)
          · refine lv_iload_n hx hb dX6_sheet_47 rfl (lv_at hl0 3 rfl) ?_
            refine lv_bipush (v := 40) hx hb dX6_sheet_48 (by decide) ?_
            refine lv_icmp_le (tgt := 59) hx hb dX6_sheet_50 (by decide) (fun c_50 => ?_) (fun c_50 => ?_)
            · rcases in3 c_5 with rfl | rfl | rfl | rfl
              · replace hP1 : va_P D vwCl ([sO cy hh a kk dd b w ee qq ik, ia cy (hh 1) 7 C, qsB cy qq, hO cy (qq 1) (qq 5) (bi 0) (si 0), hO cy (qq 2) (qq 6) (bi 1) (si 1), hO cy (qq 3) (qq 7) (bi 2) (si 2), hO cy (qq 4) (qq 8) (bi 3) (si 3), la cy (qq 5) 40 (f 0), la cy (qq 6) 40 (f 1), la cy (qq 7) 40 (f 2), la cy (qq 8) 40 (f 3)]) H1 := hP1
                replace hD1 : va_D (va_A _ sz) ([sO cy hh a kk dd b w ee qq ik, ia cy (hh 1) 7 C, qsB cy qq, hO cy (qq 1) (qq 5) (bi 0) (si 0), hO cy (qq 2) (qq 6) (bi 1) (si 1), hO cy (qq 3) (qq 7) (bi 2) (si 2), hO cy (qq 4) (qq 8) (bi 3) (si 3), la cy (qq 5) 40 (f 0), la cy (qq 6) 40 (f 1), la cy (qq 7) 40 (f 2), la cy (qq 8) 40 (f 3)]) := hD1
                refine lv_aload_n hx hb dX6_sheet_59 rfl (lv_at hl0 0 rfl) ?_
                refine va_get (D := D) (ci := 6) (v := .ref (qq 0)) (C := RX6) (T := TX6) (N := 9) hx hb hw iX6 hown hK hP1 0 rfl rfl 7 (by decide) (hw _ kw_2_34) (fun _ h9 => h9) rfl dX6_sheet_60 ?_
                refine lv_iload_n hx hb dX6_sheet_63 rfl (lv_at hl0 1 rfl) ?_
                refine ald_q hx hb hK hP1 2 3 rfl rfl rfl 0 rfl (by first | omega | assumption) (by decide) (rfl) dX6_sheet_64 ?_
                refine lv_iload_n hx hb dX6_sheet_65 rfl (lv_at hl0 2 rfl) ?_
                refine lv_iload_n hx hb dX6_sheet_66 rfl (lv_at hl0 2 rfl) ?_
                refine lv_if_ne (tgt := 74) hx hb dX6_sheet_67 (by decide) (fun c_67 => ?_) (fun c_67 => ?_)
                · refine lv_iload_n hx hb dX6_sheet_74 rfl (lv_at hl0 3 rfl) ?_
                  refine tp (show (x3) = if x2 = 0 then 0 else x3 from (if_neg c_67).symm) ?_
                  refine cV_v (wc := [hO cy (qq 1) (qq 5) (bi 0) (si 0), la cy (qq 5) 40 (f 0)]) (wr := [sO cy hh a kk dd b w ee qq ik, ia cy (hh 1) 7 C, qsB cy qq, hO cy (qq 2) (qq 6) (bi 1) (si 1), hO cy (qq 3) (qq 7) (bi 2) (si 2), hO cy (qq 4) (qq 8) (bi 3) (si 3), la cy (qq 6) 40 (f 1), la cy (qq 7) 40 (f 2), la cy (qq 8) 40 (f 3)]) (rest := []) hx hb hml hown hw hG hK hP1 hD1 hS1 hA hl0 kc_X2_lay kw_4_0 [.int x2, .int (if x2 = 0 then 0 else x3)] (c_X2_lay l D cy G H1.size (qq 1) (qq 5) (bi 0) (si 0) (f 0) x2 (if x2 = 0 then 0 else x3) ((hso 0 (by decide)).2.2)) [3, 7] [0, 1, 2, 4, 5, 6, 8, 9, 10] rfl rfl rfl rfl rfl 0 rfl rfl rfl rfl rfl (Nat.le_of_ble_eq_true rfl) ⟨Nat.le_of_ble_eq_true rfl, Nat.le_of_ble_eq_true rfl⟩ dX6_sheet_75 ⟨Nat.le_of_ble_eq_true rfl, Nat.le_of_ble_eq_true rfl⟩ (fun u9 H2 locs2 hu9 hP2 hD2 hS2 => ?_)
                  clear hP1 hD1 hS1 locs1 H1
                  replace hP2 : va_P D vwCl ([sO cy hh a kk dd b w ee qq ik, ia cy (hh 1) 7 C, qsB cy qq, hO cy (qq 2) (qq 6) (bi 1) (si 1), hO cy (qq 3) (qq 7) (bi 2) (si 2), hO cy (qq 4) (qq 8) (bi 3) (si 3), la cy (qq 6) 40 (f 1), la cy (qq 7) 40 (f 2), la cy (qq 8) 40 (f 3), hO cy (qq 1) (qq 5) x2 (if x2 = 0 then 0 else x3), la cy (qq 5) 40 (fun _ => 0)]) H2 := hP2
                  replace hD2 : va_D (va_A _ sz) ([sO cy hh a kk dd b w ee qq ik, ia cy (hh 1) 7 C, qsB cy qq, hO cy (qq 2) (qq 6) (bi 1) (si 1), hO cy (qq 3) (qq 7) (bi 2) (si 2), hO cy (qq 4) (qq 8) (bi 3) (si 3), la cy (qq 6) 40 (f 1), la cy (qq 7) 40 (f 2), la cy (qq 8) 40 (f 3), hO cy (qq 1) (qq 5) x2 (if x2 = 0 then 0 else x3), la cy (qq 5) 40 (fun _ => 0)]) := hD2
                  replace hP2 := hP2.sub (ws' := [sO cy hh a kk dd b w ee qq ik, ia cy (hh 1) 7 C, qsB cy qq, hO cy (qq 1) (qq 5) x2 (if x2 = 0 then 0 else x3), hO cy (qq 2) (qq 6) (bi 1) (si 1), hO cy (qq 3) (qq 7) (bi 2) (si 2), hO cy (qq 4) (qq 8) (bi 3) (si 3), la cy (qq 5) 40 (fun _ => 0), la cy (qq 6) 40 (f 1), la cy (qq 7) 40 (f 2), la cy (qq 8) 40 (f 3)]) [0, 1, 2, 9, 3, 4, 5, 10, 6, 7, 8] rfl
                  replace hD2 := hD2.sub (ws' := [sO cy hh a kk dd b w ee qq ik, ia cy (hh 1) 7 C, qsB cy qq, hO cy (qq 1) (qq 5) x2 (if x2 = 0 then 0 else x3), hO cy (qq 2) (qq 6) (bi 1) (si 1), hO cy (qq 3) (qq 7) (bi 2) (si 2), hO cy (qq 4) (qq 8) (bi 3) (si 3), la cy (qq 5) 40 (fun _ => 0), la cy (qq 6) 40 (f 1), la cy (qq 7) 40 (f 2), la cy (qq 8) 40 (f 3)]) [0, 1, 2, 9, 3, 4, 5, 10, 6, 7, 8] (by decide) rfl
                  refine lv_aload_n hx hb dX6_sheet_78 rfl (lv_at hl0 0 rfl) ?_
                  refine va_get (D := D) (ci := 6) (v := .ref (qq 0)) (C := RX6) (T := TX6) (N := 9) hx hb hw iX6 hown hK hP2 0 rfl rfl 7 (by decide) (hw _ kw_2_34) (fun _ h9 => h9) rfl dX6_sheet_79 ?_
                  refine lv_iload_n hx hb dX6_sheet_82 rfl (lv_at hl0 1 rfl) ?_
                  refine ald_q hx hb hK hP2 2 3 rfl rfl rfl 0 rfl (by first | omega | assumption) (by decide) (rfl) dX6_sheet_83 ?_
                  refine va_get (D := D) (ci := 2) (v := .int (if x2 = 0 then 0 else x3)) (C := RX2) (T := TX2) (N := 3) hx hb hw iX2 hown hK hP2 3 rfl rfl 2 (by decide) (hw _ kw_2_18) (fun _ h9 => h9) rfl dX6_sheet_84 ?_
                  replace hP2 : va_P D vwCl ([sO cy hh a kk dd b w ee qq ik, ia cy (hh 1) 7 C] ++ (shB cy qq (va_up bi 0 x2) (va_up si 0 (if x2 = 0 then 0 else x3)) (va_up f 0 (fun _ => 0)))) H2 := hP2
                  replace hD2 : va_D (va_A _ sz) ([sO cy hh a kk dd b w ee qq ik, ia cy (hh 1) 7 C] ++ (shB cy qq (va_up bi 0 x2) (va_up si 0 (if x2 = 0 then 0 else x3)) (va_up f 0 (fun _ => 0)))) := hD2
                  have hcd : cLay 0 x2 x3 = 7 := by unfold cLay; clear hx hb hml hown hr hlocks hw hsz hA hG hK hP2 hD2 hS2 hl0; grind
                  have hq9 : ([sO cy hh a kk dd b w ee qq ik, ia cy (hh 1) 7 C] ++ (shB cy qq (va_up bi 0 x2) (va_up si 0 (if x2 = 0 then 0 else x3)) (va_up f 0 (fun _ => 0)))) = ([sO cy hh a kk dd b w ee qq ik, ia cy (hh 1) 7 (fnd C (cLay 0 x2 x3))] ++ (shB cy qq (va_up bi 0 x2) (va_up si 0 (if x2 = 0 then 0 else x3)) (va_up f 0 (fun _ => 0)))) := congrArg (fun z9 => [sO cy hh a kk dd b w ee qq ik, ia cy (hh 1) 7 z9] ++ (shB cy qq (va_up bi 0 x2) (va_up si 0 (if x2 = 0 then 0 else x3)) (va_up f 0 (fun _ => 0)))) (show C = (fnd C (cLay 0 x2 x3)) from fnd_o hcd)
                  replace hP2 := (congrArg (fun z9 => va_P D vwCl z9 _) hq9).mp hP2
                  replace hD2 := (congrArg (fun z9 => va_D _ z9) hq9).mp hD2
                  clear hq9
                  have hq9 : ([sO cy hh a kk dd b w ee qq ik, ia cy (hh 1) 7 (fnd C (cLay 0 x2 x3))] ++ (shB cy qq (va_up bi 0 x2) (va_up si 0 (if x2 = 0 then 0 else x3)) (va_up f 0 (fun _ => 0)))) = ([sO cy hh a kk dd b w ee qq ik, ia cy (hh 1) 7 (fnd C (cLay 0 x2 x3))] ++ (shB cy qq (if cLay 0 x2 x3 = 7 then va_up bi (bstN 0) x2 else bi) (va_up si 0 (if x2 = 0 then 0 else x3)) (va_up f 0 (fun _ => 0)))) := congrArg (fun z9 => [sO cy hh a kk dd b w ee qq ik, ia cy (hh 1) 7 (fnd C (cLay 0 x2 x3))] ++ (shB cy qq z9 (va_up si 0 (if x2 = 0 then 0 else x3)) (va_up f 0 (fun _ => 0)))) (show (va_up bi 0 x2) = (if cLay 0 x2 x3 = 7 then va_up bi (bstN 0) x2 else bi) from by rw [if_pos hcd]; simp only [hb0, hb1, hb2, hb3])
                  replace hP2 := (congrArg (fun z9 => va_P D vwCl z9 _) hq9).mp hP2
                  replace hD2 := (congrArg (fun z9 => va_D _ z9) hq9).mp hD2
                  clear hq9
                  have hq9 : ([sO cy hh a kk dd b w ee qq ik, ia cy (hh 1) 7 (fnd C (cLay 0 x2 x3))] ++ (shB cy qq (if cLay 0 x2 x3 = 7 then va_up bi (bstN 0) x2 else bi) (va_up si 0 (if x2 = 0 then 0 else x3)) (va_up f 0 (fun _ => 0)))) = ([sO cy hh a kk dd b w ee qq ik, ia cy (hh 1) 7 (fnd C (cLay 0 x2 x3))] ++ (shB cy qq (if cLay 0 x2 x3 = 7 then va_up bi (bstN 0) x2 else bi) (if cLay 0 x2 x3 = 7 then va_up si (bstN 0) (if x2 = 0 then 0 else x3) else si) (va_up f 0 (fun _ => 0)))) := congrArg (fun z9 => [sO cy hh a kk dd b w ee qq ik, ia cy (hh 1) 7 (fnd C (cLay 0 x2 x3))] ++ (shB cy qq (if cLay 0 x2 x3 = 7 then va_up bi (bstN 0) x2 else bi) z9 (va_up f 0 (fun _ => 0)))) (show (va_up si 0 (if x2 = 0 then 0 else x3)) = (if cLay 0 x2 x3 = 7 then va_up si (bstN 0) (if x2 = 0 then 0 else x3) else si) from by rw [if_pos hcd]; simp only [hb0, hb1, hb2, hb3])
                  replace hP2 := (congrArg (fun z9 => va_P D vwCl z9 _) hq9).mp hP2
                  replace hD2 := (congrArg (fun z9 => va_D _ z9) hq9).mp hD2
                  clear hq9
                  have hq9 : ([sO cy hh a kk dd b w ee qq ik, ia cy (hh 1) 7 (fnd C (cLay 0 x2 x3))] ++ (shB cy qq (if cLay 0 x2 x3 = 7 then va_up bi (bstN 0) x2 else bi) (if cLay 0 x2 x3 = 7 then va_up si (bstN 0) (if x2 = 0 then 0 else x3) else si) (va_up f 0 (fun _ => 0)))) = ([sO cy hh a kk dd b w ee qq ik, ia cy (hh 1) 7 (fnd C (cLay 0 x2 x3))] ++ (shB cy qq (if cLay 0 x2 x3 = 7 then va_up bi (bstN 0) x2 else bi) (if cLay 0 x2 x3 = 7 then va_up si (bstN 0) (if x2 = 0 then 0 else x3) else si) (if cLay 0 x2 x3 = 7 then va_up f (bstN 0) (fun _ => 0) else f))) := congrArg (fun z9 => [sO cy hh a kk dd b w ee qq ik, ia cy (hh 1) 7 (fnd C (cLay 0 x2 x3))] ++ (shB cy qq (if cLay 0 x2 x3 = 7 then va_up bi (bstN 0) x2 else bi) (if cLay 0 x2 x3 = 7 then va_up si (bstN 0) (if x2 = 0 then 0 else x3) else si) z9)) (show (va_up f 0 (fun _ => 0)) = (if cLay 0 x2 x3 = 7 then va_up f (bstN 0) (fun _ => 0) else f) from by rw [if_pos hcd]; simp only [hb0, hb1, hb2, hb3])
                  replace hP2 := (congrArg (fun z9 => va_P D vwCl z9 _) hq9).mp hP2
                  replace hD2 := (congrArg (fun z9 => va_D _ z9) hq9).mp hD2
                  clear hq9
                  refine re_i () hx hb hr hlocks hP2 hD2 hS2 dX6_sheet_87 ?_
                  exact (ans_o hcd (rfl))
                · refine lv_iconst (v := 0) hx hb dX6_sheet_70 (by decide) ?_
                  refine lv_goto (tgt := 75) hx hb dX6_sheet_71 (by decide) ?_
                  refine tp (show (0) = if x2 = 0 then 0 else x3 from (if_pos c_67).symm) ?_
                  refine cV_v (wc := [hO cy (qq 1) (qq 5) (bi 0) (si 0), la cy (qq 5) 40 (f 0)]) (wr := [sO cy hh a kk dd b w ee qq ik, ia cy (hh 1) 7 C, qsB cy qq, hO cy (qq 2) (qq 6) (bi 1) (si 1), hO cy (qq 3) (qq 7) (bi 2) (si 2), hO cy (qq 4) (qq 8) (bi 3) (si 3), la cy (qq 6) 40 (f 1), la cy (qq 7) 40 (f 2), la cy (qq 8) 40 (f 3)]) (rest := []) hx hb hml hown hw hG hK hP1 hD1 hS1 hA hl0 kc_X2_lay kw_4_0 [.int x2, .int (if x2 = 0 then 0 else x3)] (c_X2_lay l D cy G H1.size (qq 1) (qq 5) (bi 0) (si 0) (f 0) x2 (if x2 = 0 then 0 else x3) ((hso 0 (by decide)).2.2)) [3, 7] [0, 1, 2, 4, 5, 6, 8, 9, 10] rfl rfl rfl rfl rfl 0 rfl rfl rfl rfl rfl (Nat.le_of_ble_eq_true rfl) ⟨Nat.le_of_ble_eq_true rfl, Nat.le_of_ble_eq_true rfl⟩ dX6_sheet_75 ⟨Nat.le_of_ble_eq_true rfl, Nat.le_of_ble_eq_true rfl⟩ (fun u9 H2 locs2 hu9 hP2 hD2 hS2 => ?_)
                  clear hP1 hD1 hS1 locs1 H1
                  replace hP2 : va_P D vwCl ([sO cy hh a kk dd b w ee qq ik, ia cy (hh 1) 7 C, qsB cy qq, hO cy (qq 2) (qq 6) (bi 1) (si 1), hO cy (qq 3) (qq 7) (bi 2) (si 2), hO cy (qq 4) (qq 8) (bi 3) (si 3), la cy (qq 6) 40 (f 1), la cy (qq 7) 40 (f 2), la cy (qq 8) 40 (f 3), hO cy (qq 1) (qq 5) x2 (if x2 = 0 then 0 else x3), la cy (qq 5) 40 (fun _ => 0)]) H2 := hP2
                  replace hD2 : va_D (va_A _ sz) ([sO cy hh a kk dd b w ee qq ik, ia cy (hh 1) 7 C, qsB cy qq, hO cy (qq 2) (qq 6) (bi 1) (si 1), hO cy (qq 3) (qq 7) (bi 2) (si 2), hO cy (qq 4) (qq 8) (bi 3) (si 3), la cy (qq 6) 40 (f 1), la cy (qq 7) 40 (f 2), la cy (qq 8) 40 (f 3), hO cy (qq 1) (qq 5) x2 (if x2 = 0 then 0 else x3), la cy (qq 5) 40 (fun _ => 0)]) := hD2
                  replace hP2 := hP2.sub (ws' := [sO cy hh a kk dd b w ee qq ik, ia cy (hh 1) 7 C, qsB cy qq, hO cy (qq 1) (qq 5) x2 (if x2 = 0 then 0 else x3), hO cy (qq 2) (qq 6) (bi 1) (si 1), hO cy (qq 3) (qq 7) (bi 2) (si 2), hO cy (qq 4) (qq 8) (bi 3) (si 3), la cy (qq 5) 40 (fun _ => 0), la cy (qq 6) 40 (f 1), la cy (qq 7) 40 (f 2), la cy (qq 8) 40 (f 3)]) [0, 1, 2, 9, 3, 4, 5, 10, 6, 7, 8] rfl
                  replace hD2 := hD2.sub (ws' := [sO cy hh a kk dd b w ee qq ik, ia cy (hh 1) 7 C, qsB cy qq, hO cy (qq 1) (qq 5) x2 (if x2 = 0 then 0 else x3), hO cy (qq 2) (qq 6) (bi 1) (si 1), hO cy (qq 3) (qq 7) (bi 2) (si 2), hO cy (qq 4) (qq 8) (bi 3) (si 3), la cy (qq 5) 40 (fun _ => 0), la cy (qq 6) 40 (f 1), la cy (qq 7) 40 (f 2), la cy (qq 8) 40 (f 3)]) [0, 1, 2, 9, 3, 4, 5, 10, 6, 7, 8] (by decide) rfl
                  refine lv_aload_n hx hb dX6_sheet_78 rfl (lv_at hl0 0 rfl) ?_
                  refine va_get (D := D) (ci := 6) (v := .ref (qq 0)) (C := RX6) (T := TX6) (N := 9) hx hb hw iX6 hown hK hP2 0 rfl rfl 7 (by decide) (hw _ kw_2_34) (fun _ h9 => h9) rfl dX6_sheet_79 ?_
                  refine lv_iload_n hx hb dX6_sheet_82 rfl (lv_at hl0 1 rfl) ?_
                  refine ald_q hx hb hK hP2 2 3 rfl rfl rfl 0 rfl (by first | omega | assumption) (by decide) (rfl) dX6_sheet_83 ?_
                  refine va_get (D := D) (ci := 2) (v := .int (if x2 = 0 then 0 else x3)) (C := RX2) (T := TX2) (N := 3) hx hb hw iX2 hown hK hP2 3 rfl rfl 2 (by decide) (hw _ kw_2_18) (fun _ h9 => h9) rfl dX6_sheet_84 ?_
                  replace hP2 : va_P D vwCl ([sO cy hh a kk dd b w ee qq ik, ia cy (hh 1) 7 C] ++ (shB cy qq (va_up bi 0 x2) (va_up si 0 (if x2 = 0 then 0 else x3)) (va_up f 0 (fun _ => 0)))) H2 := hP2
                  replace hD2 : va_D (va_A _ sz) ([sO cy hh a kk dd b w ee qq ik, ia cy (hh 1) 7 C] ++ (shB cy qq (va_up bi 0 x2) (va_up si 0 (if x2 = 0 then 0 else x3)) (va_up f 0 (fun _ => 0)))) := hD2
                  have hcd : cLay 0 x2 x3 = 7 := by unfold cLay; clear hx hb hml hown hr hlocks hw hsz hA hG hK hP2 hD2 hS2 hl0; grind
                  have hq9 : ([sO cy hh a kk dd b w ee qq ik, ia cy (hh 1) 7 C] ++ (shB cy qq (va_up bi 0 x2) (va_up si 0 (if x2 = 0 then 0 else x3)) (va_up f 0 (fun _ => 0)))) = ([sO cy hh a kk dd b w ee qq ik, ia cy (hh 1) 7 (fnd C (cLay 0 x2 x3))] ++ (shB cy qq (va_up bi 0 x2) (va_up si 0 (if x2 = 0 then 0 else x3)) (va_up f 0 (fun _ => 0)))) := congrArg (fun z9 => [sO cy hh a kk dd b w ee qq ik, ia cy (hh 1) 7 z9] ++ (shB cy qq (va_up bi 0 x2) (va_up si 0 (if x2 = 0 then 0 else x3)) (va_up f 0 (fun _ => 0)))) (show C = (fnd C (cLay 0 x2 x3)) from fnd_o hcd)
                  replace hP2 := (congrArg (fun z9 => va_P D vwCl z9 _) hq9).mp hP2
                  replace hD2 := (congrArg (fun z9 => va_D _ z9) hq9).mp hD2
                  clear hq9
                  have hq9 : ([sO cy hh a kk dd b w ee qq ik, ia cy (hh 1) 7 (fnd C (cLay 0 x2 x3))] ++ (shB cy qq (va_up bi 0 x2) (va_up si 0 (if x2 = 0 then 0 else x3)) (va_up f 0 (fun _ => 0)))) = ([sO cy hh a kk dd b w ee qq ik, ia cy (hh 1) 7 (fnd C (cLay 0 x2 x3))] ++ (shB cy qq (if cLay 0 x2 x3 = 7 then va_up bi (bstN 0) x2 else bi) (va_up si 0 (if x2 = 0 then 0 else x3)) (va_up f 0 (fun _ => 0)))) := congrArg (fun z9 => [sO cy hh a kk dd b w ee qq ik, ia cy (hh 1) 7 (fnd C (cLay 0 x2 x3))] ++ (shB cy qq z9 (va_up si 0 (if x2 = 0 then 0 else x3)) (va_up f 0 (fun _ => 0)))) (show (va_up bi 0 x2) = (if cLay 0 x2 x3 = 7 then va_up bi (bstN 0) x2 else bi) from by rw [if_pos hcd]; simp only [hb0, hb1, hb2, hb3])
                  replace hP2 := (congrArg (fun z9 => va_P D vwCl z9 _) hq9).mp hP2
                  replace hD2 := (congrArg (fun z9 => va_D _ z9) hq9).mp hD2
                  clear hq9
                  have hq9 : ([sO cy hh a kk dd b w ee qq ik, ia cy (hh 1) 7 (fnd C (cLay 0 x2 x3))] ++ (shB cy qq (if cLay 0 x2 x3 = 7 then va_up bi (bstN 0) x2 else bi) (va_up si 0 (if x2 = 0 then 0 else x3)) (va_up f 0 (fun _ => 0)))) = ([sO cy hh a kk dd b w ee qq ik, ia cy (hh 1) 7 (fnd C (cLay 0 x2 x3))] ++ (shB cy qq (if cLay 0 x2 x3 = 7 then va_up bi (bstN 0) x2 else bi) (if cLay 0 x2 x3 = 7 then va_up si (bstN 0) (if x2 = 0 then 0 else x3) else si) (va_up f 0 (fun _ => 0)))) := congrArg (fun z9 => [sO cy hh a kk dd b w ee qq ik, ia cy (hh 1) 7 (fnd C (cLay 0 x2 x3))] ++ (shB cy qq (if cLay 0 x2 x3 = 7 then va_up bi (bstN 0) x2 else bi) z9 (va_up f 0 (fun _ => 0)))) (show (va_up si 0 (if x2 = 0 then 0 else x3)) = (if cLay 0 x2 x3 = 7 then va_up si (bstN 0) (if x2 = 0 then 0 else x3) else si) from by rw [if_pos hcd]; simp only [hb0, hb1, hb2, hb3])
                  replace hP2 := (congrArg (fun z9 => va_P D vwCl z9 _) hq9).mp hP2
                  replace hD2 := (congrArg (fun z9 => va_D _ z9) hq9).mp hD2
                  clear hq9
                  have hq9 : ([sO cy hh a kk dd b w ee qq ik, ia cy (hh 1) 7 (fnd C (cLay 0 x2 x3))] ++ (shB cy qq (if cLay 0 x2 x3 = 7 then va_up bi (bstN 0) x2 else bi) (if cLay 0 x2 x3 = 7 then va_up si (bstN 0) (if x2 = 0 then 0 else x3) else si) (va_up f 0 (fun _ => 0)))) = ([sO cy hh a kk dd b w ee qq ik, ia cy (hh 1) 7 (fnd C (cLay 0 x2 x3))] ++ (shB cy qq (if cLay 0 x2 x3 = 7 then va_up bi (bstN 0) x2 else bi) (if cLay 0 x2 x3 = 7 then va_up si (bstN 0) (if x2 = 0 then 0 else x3) else si) (if cLay 0 x2 x3 = 7 then va_up f (bstN 0) (fun _ => 0) else f))) := congrArg (fun z9 => [sO cy hh a kk dd b w ee qq ik, ia cy (hh 1) 7 (fnd C (cLay 0 x2 x3))] ++ (shB cy qq (if cLay 0 x2 x3 = 7 then va_up bi (bstN 0) x2 else bi) (if cLay 0 x2 x3 = 7 then va_up si (bstN 0) (if x2 = 0 then 0 else x3) else si) z9)) (show (va_up f 0 (fun _ => 0)) = (if cLay 0 x2 x3 = 7 then va_up f (bstN 0) (fun _ => 0) else f) from by rw [if_pos hcd]; simp only [hb0, hb1, hb2, hb3])
                  replace hP2 := (congrArg (fun z9 => va_P D vwCl z9 _) hq9).mp hP2
                  replace hD2 := (congrArg (fun z9 => va_D _ z9) hq9).mp hD2
                  clear hq9
                  refine re_i () hx hb hr hlocks hP2 hD2 hS2 dX6_sheet_87 ?_
                  exact (ans_o hcd (rfl))
              · replace hP1 : va_P D vwCl ([sO cy hh a kk dd b w ee qq ik, ia cy (hh 1) 7 C, qsB cy qq, hO cy (qq 1) (qq 5) (bi 0) (si 0), hO cy (qq 2) (qq 6) (bi 1) (si 1), hO cy (qq 3) (qq 7) (bi 2) (si 2), hO cy (qq 4) (qq 8) (bi 3) (si 3), la cy (qq 5) 40 (f 0), la cy (qq 6) 40 (f 1), la cy (qq 7) 40 (f 2), la cy (qq 8) 40 (f 3)]) H1 := hP1
                replace hD1 : va_D (va_A _ sz) ([sO cy hh a kk dd b w ee qq ik, ia cy (hh 1) 7 C, qsB cy qq, hO cy (qq 1) (qq 5) (bi 0) (si 0), hO cy (qq 2) (qq 6) (bi 1) (si 1), hO cy (qq 3) (qq 7) (bi 2) (si 2), hO cy (qq 4) (qq 8) (bi 3) (si 3), la cy (qq 5) 40 (f 0), la cy (qq 6) 40 (f 1), la cy (qq 7) 40 (f 2), la cy (qq 8) 40 (f 3)]) := hD1
                refine lv_aload_n hx hb dX6_sheet_59 rfl (lv_at hl0 0 rfl) ?_
                refine va_get (D := D) (ci := 6) (v := .ref (qq 0)) (C := RX6) (T := TX6) (N := 9) hx hb hw iX6 hown hK hP1 0 rfl rfl 7 (by decide) (hw _ kw_2_34) (fun _ h9 => h9) rfl dX6_sheet_60 ?_
                refine lv_iload_n hx hb dX6_sheet_63 rfl (lv_at hl0 1 rfl) ?_
                refine ald_q hx hb hK hP1 2 3 rfl rfl rfl 1 rfl (by first | omega | assumption) (by decide) (rfl) dX6_sheet_64 ?_
                refine lv_iload_n hx hb dX6_sheet_65 rfl (lv_at hl0 2 rfl) ?_
                refine lv_iload_n hx hb dX6_sheet_66 rfl (lv_at hl0 2 rfl) ?_
                refine lv_if_ne (tgt := 74) hx hb dX6_sheet_67 (by decide) (fun c_67 => ?_) (fun c_67 => ?_)
                · refine lv_iload_n hx hb dX6_sheet_74 rfl (lv_at hl0 3 rfl) ?_
                  refine tp (show (x3) = if x2 = 0 then 0 else x3 from (if_neg c_67).symm) ?_
                  refine cV_v (wc := [hO cy (qq 2) (qq 6) (bi 1) (si 1), la cy (qq 6) 40 (f 1)]) (wr := [sO cy hh a kk dd b w ee qq ik, ia cy (hh 1) 7 C, qsB cy qq, hO cy (qq 1) (qq 5) (bi 0) (si 0), hO cy (qq 3) (qq 7) (bi 2) (si 2), hO cy (qq 4) (qq 8) (bi 3) (si 3), la cy (qq 5) 40 (f 0), la cy (qq 7) 40 (f 2), la cy (qq 8) 40 (f 3)]) (rest := []) hx hb hml hown hw hG hK hP1 hD1 hS1 hA hl0 kc_X2_lay kw_4_0 [.int x2, .int (if x2 = 0 then 0 else x3)] (c_X2_lay l D cy G H1.size (qq 2) (qq 6) (bi 1) (si 1) (f 1) x2 (if x2 = 0 then 0 else x3) ((hso 1 (by decide)).2.2)) [4, 8] [0, 1, 2, 3, 5, 6, 7, 9, 10] rfl rfl rfl rfl rfl 0 rfl rfl rfl rfl rfl (Nat.le_of_ble_eq_true rfl) ⟨Nat.le_of_ble_eq_true rfl, Nat.le_of_ble_eq_true rfl⟩ dX6_sheet_75 ⟨Nat.le_of_ble_eq_true rfl, Nat.le_of_ble_eq_true rfl⟩ (fun u9 H2 locs2 hu9 hP2 hD2 hS2 => ?_)
                  clear hP1 hD1 hS1 locs1 H1
                  replace hP2 : va_P D vwCl ([sO cy hh a kk dd b w ee qq ik, ia cy (hh 1) 7 C, qsB cy qq, hO cy (qq 1) (qq 5) (bi 0) (si 0), hO cy (qq 3) (qq 7) (bi 2) (si 2), hO cy (qq 4) (qq 8) (bi 3) (si 3), la cy (qq 5) 40 (f 0), la cy (qq 7) 40 (f 2), la cy (qq 8) 40 (f 3), hO cy (qq 2) (qq 6) x2 (if x2 = 0 then 0 else x3), la cy (qq 6) 40 (fun _ => 0)]) H2 := hP2
                  replace hD2 : va_D (va_A _ sz) ([sO cy hh a kk dd b w ee qq ik, ia cy (hh 1) 7 C, qsB cy qq, hO cy (qq 1) (qq 5) (bi 0) (si 0), hO cy (qq 3) (qq 7) (bi 2) (si 2), hO cy (qq 4) (qq 8) (bi 3) (si 3), la cy (qq 5) 40 (f 0), la cy (qq 7) 40 (f 2), la cy (qq 8) 40 (f 3), hO cy (qq 2) (qq 6) x2 (if x2 = 0 then 0 else x3), la cy (qq 6) 40 (fun _ => 0)]) := hD2
                  replace hP2 := hP2.sub (ws' := [sO cy hh a kk dd b w ee qq ik, ia cy (hh 1) 7 C, qsB cy qq, hO cy (qq 1) (qq 5) (bi 0) (si 0), hO cy (qq 2) (qq 6) x2 (if x2 = 0 then 0 else x3), hO cy (qq 3) (qq 7) (bi 2) (si 2), hO cy (qq 4) (qq 8) (bi 3) (si 3), la cy (qq 5) 40 (f 0), la cy (qq 6) 40 (fun _ => 0), la cy (qq 7) 40 (f 2), la cy (qq 8) 40 (f 3)]) [0, 1, 2, 3, 9, 4, 5, 6, 10, 7, 8] rfl
                  replace hD2 := hD2.sub (ws' := [sO cy hh a kk dd b w ee qq ik, ia cy (hh 1) 7 C, qsB cy qq, hO cy (qq 1) (qq 5) (bi 0) (si 0), hO cy (qq 2) (qq 6) x2 (if x2 = 0 then 0 else x3), hO cy (qq 3) (qq 7) (bi 2) (si 2), hO cy (qq 4) (qq 8) (bi 3) (si 3), la cy (qq 5) 40 (f 0), la cy (qq 6) 40 (fun _ => 0), la cy (qq 7) 40 (f 2), la cy (qq 8) 40 (f 3)]) [0, 1, 2, 3, 9, 4, 5, 6, 10, 7, 8] (by decide) rfl
                  refine lv_aload_n hx hb dX6_sheet_78 rfl (lv_at hl0 0 rfl) ?_
                  refine va_get (D := D) (ci := 6) (v := .ref (qq 0)) (C := RX6) (T := TX6) (N := 9) hx hb hw iX6 hown hK hP2 0 rfl rfl 7 (by decide) (hw _ kw_2_34) (fun _ h9 => h9) rfl dX6_sheet_79 ?_
                  refine lv_iload_n hx hb dX6_sheet_82 rfl (lv_at hl0 1 rfl) ?_
                  refine ald_q hx hb hK hP2 2 3 rfl rfl rfl 1 rfl (by first | omega | assumption) (by decide) (rfl) dX6_sheet_83 ?_
                  refine va_get (D := D) (ci := 2) (v := .int (if x2 = 0 then 0 else x3)) (C := RX2) (T := TX2) (N := 3) hx hb hw iX2 hown hK hP2 4 rfl rfl 2 (by decide) (hw _ kw_2_18) (fun _ h9 => h9) rfl dX6_sheet_84 ?_
                  replace hP2 : va_P D vwCl ([sO cy hh a kk dd b w ee qq ik, ia cy (hh 1) 7 C] ++ (shB cy qq (va_up bi 1 x2) (va_up si 1 (if x2 = 0 then 0 else x3)) (va_up f 1 (fun _ => 0)))) H2 := hP2
                  replace hD2 : va_D (va_A _ sz) ([sO cy hh a kk dd b w ee qq ik, ia cy (hh 1) 7 C] ++ (shB cy qq (va_up bi 1 x2) (va_up si 1 (if x2 = 0 then 0 else x3)) (va_up f 1 (fun _ => 0)))) := hD2
                  have hcd : cLay 1 x2 x3 = 7 := by unfold cLay; clear hx hb hml hown hr hlocks hw hsz hA hG hK hP2 hD2 hS2 hl0; grind
                  have hq9 : ([sO cy hh a kk dd b w ee qq ik, ia cy (hh 1) 7 C] ++ (shB cy qq (va_up bi 1 x2) (va_up si 1 (if x2 = 0 then 0 else x3)) (va_up f 1 (fun _ => 0)))) = ([sO cy hh a kk dd b w ee qq ik, ia cy (hh 1) 7 (fnd C (cLay 1 x2 x3))] ++ (shB cy qq (va_up bi 1 x2) (va_up si 1 (if x2 = 0 then 0 else x3)) (va_up f 1 (fun _ => 0)))) := congrArg (fun z9 => [sO cy hh a kk dd b w ee qq ik, ia cy (hh 1) 7 z9] ++ (shB cy qq (va_up bi 1 x2) (va_up si 1 (if x2 = 0 then 0 else x3)) (va_up f 1 (fun _ => 0)))) (show C = (fnd C (cLay 1 x2 x3)) from fnd_o hcd)
                  replace hP2 := (congrArg (fun z9 => va_P D vwCl z9 _) hq9).mp hP2
                  replace hD2 := (congrArg (fun z9 => va_D _ z9) hq9).mp hD2
                  clear hq9
                  have hq9 : ([sO cy hh a kk dd b w ee qq ik, ia cy (hh 1) 7 (fnd C (cLay 1 x2 x3))] ++ (shB cy qq (va_up bi 1 x2) (va_up si 1 (if x2 = 0 then 0 else x3)) (va_up f 1 (fun _ => 0)))) = ([sO cy hh a kk dd b w ee qq ik, ia cy (hh 1) 7 (fnd C (cLay 1 x2 x3))] ++ (shB cy qq (if cLay 1 x2 x3 = 7 then va_up bi (bstN 1) x2 else bi) (va_up si 1 (if x2 = 0 then 0 else x3)) (va_up f 1 (fun _ => 0)))) := congrArg (fun z9 => [sO cy hh a kk dd b w ee qq ik, ia cy (hh 1) 7 (fnd C (cLay 1 x2 x3))] ++ (shB cy qq z9 (va_up si 1 (if x2 = 0 then 0 else x3)) (va_up f 1 (fun _ => 0)))) (show (va_up bi 1 x2) = (if cLay 1 x2 x3 = 7 then va_up bi (bstN 1) x2 else bi) from by rw [if_pos hcd]; simp only [hb0, hb1, hb2, hb3])
                  replace hP2 := (congrArg (fun z9 => va_P D vwCl z9 _) hq9).mp hP2
                  replace hD2 := (congrArg (fun z9 => va_D _ z9) hq9).mp hD2
                  clear hq9
                  have hq9 : ([sO cy hh a kk dd b w ee qq ik, ia cy (hh 1) 7 (fnd C (cLay 1 x2 x3))] ++ (shB cy qq (if cLay 1 x2 x3 = 7 then va_up bi (bstN 1) x2 else bi) (va_up si 1 (if x2 = 0 then 0 else x3)) (va_up f 1 (fun _ => 0)))) = ([sO cy hh a kk dd b w ee qq ik, ia cy (hh 1) 7 (fnd C (cLay 1 x2 x3))] ++ (shB cy qq (if cLay 1 x2 x3 = 7 then va_up bi (bstN 1) x2 else bi) (if cLay 1 x2 x3 = 7 then va_up si (bstN 1) (if x2 = 0 then 0 else x3) else si) (va_up f 1 (fun _ => 0)))) := congrArg (fun z9 => [sO cy hh a kk dd b w ee qq ik, ia cy (hh 1) 7 (fnd C (cLay 1 x2 x3))] ++ (shB cy qq (if cLay 1 x2 x3 = 7 then va_up bi (bstN 1) x2 else bi) z9 (va_up f 1 (fun _ => 0)))) (show (va_up si 1 (if x2 = 0 then 0 else x3)) = (if cLay 1 x2 x3 = 7 then va_up si (bstN 1) (if x2 = 0 then 0 else x3) else si) from by rw [if_pos hcd]; simp only [hb0, hb1, hb2, hb3])
                  replace hP2 := (congrArg (fun z9 => va_P D vwCl z9 _) hq9).mp hP2
                  replace hD2 := (congrArg (fun z9 => va_D _ z9) hq9).mp hD2
                  clear hq9
                  have hq9 : ([sO cy hh a kk dd b w ee qq ik, ia cy (hh 1) 7 (fnd C (cLay 1 x2 x3))] ++ (shB cy qq (if cLay 1 x2 x3 = 7 then va_up bi (bstN 1) x2 else bi) (if cLay 1 x2 x3 = 7 then va_up si (bstN 1) (if x2 = 0 then 0 else x3) else si) (va_up f 1 (fun _ => 0)))) = ([sO cy hh a kk dd b w ee qq ik, ia cy (hh 1) 7 (fnd C (cLay 1 x2 x3))] ++ (shB cy qq (if cLay 1 x2 x3 = 7 then va_up bi (bstN 1) x2 else bi) (if cLay 1 x2 x3 = 7 then va_up si (bstN 1) (if x2 = 0 then 0 else x3) else si) (if cLay 1 x2 x3 = 7 then va_up f (bstN 1) (fun _ => 0) else f))) := congrArg (fun z9 => [sO cy hh a kk dd b w ee qq ik, ia cy (hh 1) 7 (fnd C (cLay 1 x2 x3))] ++ (shB cy qq (if cLay 1 x2 x3 = 7 then va_up bi (bstN 1) x2 else bi) (if cLay 1 x2 x3 = 7 then va_up si (bstN 1) (if x2 = 0 then 0 else x3) else si) z9)) (show (va_up f 1 (fun _ => 0)) = (if cLay 1 x2 x3 = 7 then va_up f (bstN 1) (fun _ => 0) else f) from by rw [if_pos hcd]; simp only [hb0, hb1, hb2, hb3])
                  replace hP2 := (congrArg (fun z9 => va_P D vwCl z9 _) hq9).mp hP2
                  replace hD2 := (congrArg (fun z9 => va_D _ z9) hq9).mp hD2
                  clear hq9
                  refine re_i () hx hb hr hlocks hP2 hD2 hS2 dX6_sheet_87 ?_
                  exact (ans_o hcd (rfl))
                · refine lv_iconst (v := 0) hx hb dX6_sheet_70 (by decide) ?_
                  refine lv_goto (tgt := 75) hx hb dX6_sheet_71 (by decide) ?_
                  refine tp (show (0) = if x2 = 0 then 0 else x3 from (if_pos c_67).symm) ?_
                  refine cV_v (wc := [hO cy (qq 2) (qq 6) (bi 1) (si 1), la cy (qq 6) 40 (f 1)]) (wr := [sO cy hh a kk dd b w ee qq ik, ia cy (hh 1) 7 C, qsB cy qq, hO cy (qq 1) (qq 5) (bi 0) (si 0), hO cy (qq 3) (qq 7) (bi 2) (si 2), hO cy (qq 4) (qq 8) (bi 3) (si 3), la cy (qq 5) 40 (f 0), la cy (qq 7) 40 (f 2), la cy (qq 8) 40 (f 3)]) (rest := []) hx hb hml hown hw hG hK hP1 hD1 hS1 hA hl0 kc_X2_lay kw_4_0 [.int x2, .int (if x2 = 0 then 0 else x3)] (c_X2_lay l D cy G H1.size (qq 2) (qq 6) (bi 1) (si 1) (f 1) x2 (if x2 = 0 then 0 else x3) ((hso 1 (by decide)).2.2)) [4, 8] [0, 1, 2, 3, 5, 6, 7, 9, 10] rfl rfl rfl rfl rfl 0 rfl rfl rfl rfl rfl (Nat.le_of_ble_eq_true rfl) ⟨Nat.le_of_ble_eq_true rfl, Nat.le_of_ble_eq_true rfl⟩ dX6_sheet_75 ⟨Nat.le_of_ble_eq_true rfl, Nat.le_of_ble_eq_true rfl⟩ (fun u9 H2 locs2 hu9 hP2 hD2 hS2 => ?_)
                  clear hP1 hD1 hS1 locs1 H1
                  replace hP2 : va_P D vwCl ([sO cy hh a kk dd b w ee qq ik, ia cy (hh 1) 7 C, qsB cy qq, hO cy (qq 1) (qq 5) (bi 0) (si 0), hO cy (qq 3) (qq 7) (bi 2) (si 2), hO cy (qq 4) (qq 8) (bi 3) (si 3), la cy (qq 5) 40 (f 0), la cy (qq 7) 40 (f 2), la cy (qq 8) 40 (f 3), hO cy (qq 2) (qq 6) x2 (if x2 = 0 then 0 else x3), la cy (qq 6) 40 (fun _ => 0)]) H2 := hP2
                  replace hD2 : va_D (va_A _ sz) ([sO cy hh a kk dd b w ee qq ik, ia cy (hh 1) 7 C, qsB cy qq, hO cy (qq 1) (qq 5) (bi 0) (si 0), hO cy (qq 3) (qq 7) (bi 2) (si 2), hO cy (qq 4) (qq 8) (bi 3) (si 3), la cy (qq 5) 40 (f 0), la cy (qq 7) 40 (f 2), la cy (qq 8) 40 (f 3), hO cy (qq 2) (qq 6) x2 (if x2 = 0 then 0 else x3), la cy (qq 6) 40 (fun _ => 0)]) := hD2
                  replace hP2 := hP2.sub (ws' := [sO cy hh a kk dd b w ee qq ik, ia cy (hh 1) 7 C, qsB cy qq, hO cy (qq 1) (qq 5) (bi 0) (si 0), hO cy (qq 2) (qq 6) x2 (if x2 = 0 then 0 else x3), hO cy (qq 3) (qq 7) (bi 2) (si 2), hO cy (qq 4) (qq 8) (bi 3) (si 3), la cy (qq 5) 40 (f 0), la cy (qq 6) 40 (fun _ => 0), la cy (qq 7) 40 (f 2), la cy (qq 8) 40 (f 3)]) [0, 1, 2, 3, 9, 4, 5, 6, 10, 7, 8] rfl
                  replace hD2 := hD2.sub (ws' := [sO cy hh a kk dd b w ee qq ik, ia cy (hh 1) 7 C, qsB cy qq, hO cy (qq 1) (qq 5) (bi 0) (si 0), hO cy (qq 2) (qq 6) x2 (if x2 = 0 then 0 else x3), hO cy (qq 3) (qq 7) (bi 2) (si 2), hO cy (qq 4) (qq 8) (bi 3) (si 3), la cy (qq 5) 40 (f 0), la cy (qq 6) 40 (fun _ => 0), la cy (qq 7) 40 (f 2), la cy (qq 8) 40 (f 3)]) [0, 1, 2, 3, 9, 4, 5, 6, 10, 7, 8] (by decide) rfl
                  refine lv_aload_n hx hb dX6_sheet_78 rfl (lv_at hl0 0 rfl) ?_
                  refine va_get (D := D) (ci := 6) (v := .ref (qq 0)) (C := RX6) (T := TX6) (N := 9) hx hb hw iX6 hown hK hP2 0 rfl rfl 7 (by decide) (hw _ kw_2_34) (fun _ h9 => h9) rfl dX6_sheet_79 ?_
                  refine lv_iload_n hx hb dX6_sheet_82 rfl (lv_at hl0 1 rfl) ?_
                  refine ald_q hx hb hK hP2 2 3 rfl rfl rfl 1 rfl (by first | omega | assumption) (by decide) (rfl) dX6_sheet_83 ?_
                  refine va_get (D := D) (ci := 2) (v := .int (if x2 = 0 then 0 else x3)) (C := RX2) (T := TX2) (N := 3) hx hb hw iX2 hown hK hP2 4 rfl rfl 2 (by decide) (hw _ kw_2_18) (fun _ h9 => h9) rfl dX6_sheet_84 ?_
                  replace hP2 : va_P D vwCl ([sO cy hh a kk dd b w ee qq ik, ia cy (hh 1) 7 C] ++ (shB cy qq (va_up bi 1 x2) (va_up si 1 (if x2 = 0 then 0 else x3)) (va_up f 1 (fun _ => 0)))) H2 := hP2
                  replace hD2 : va_D (va_A _ sz) ([sO cy hh a kk dd b w ee qq ik, ia cy (hh 1) 7 C] ++ (shB cy qq (va_up bi 1 x2) (va_up si 1 (if x2 = 0 then 0 else x3)) (va_up f 1 (fun _ => 0)))) := hD2
                  have hcd : cLay 1 x2 x3 = 7 := by unfold cLay; clear hx hb hml hown hr hlocks hw hsz hA hG hK hP2 hD2 hS2 hl0; grind
                  have hq9 : ([sO cy hh a kk dd b w ee qq ik, ia cy (hh 1) 7 C] ++ (shB cy qq (va_up bi 1 x2) (va_up si 1 (if x2 = 0 then 0 else x3)) (va_up f 1 (fun _ => 0)))) = ([sO cy hh a kk dd b w ee qq ik, ia cy (hh 1) 7 (fnd C (cLay 1 x2 x3))] ++ (shB cy qq (va_up bi 1 x2) (va_up si 1 (if x2 = 0 then 0 else x3)) (va_up f 1 (fun _ => 0)))) := congrArg (fun z9 => [sO cy hh a kk dd b w ee qq ik, ia cy (hh 1) 7 z9] ++ (shB cy qq (va_up bi 1 x2) (va_up si 1 (if x2 = 0 then 0 else x3)) (va_up f 1 (fun _ => 0)))) (show C = (fnd C (cLay 1 x2 x3)) from fnd_o hcd)
                  replace hP2 := (congrArg (fun z9 => va_P D vwCl z9 _) hq9).mp hP2
                  replace hD2 := (congrArg (fun z9 => va_D _ z9) hq9).mp hD2
                  clear hq9
                  have hq9 : ([sO cy hh a kk dd b w ee qq ik, ia cy (hh 1) 7 (fnd C (cLay 1 x2 x3))] ++ (shB cy qq (va_up bi 1 x2) (va_up si 1 (if x2 = 0 then 0 else x3)) (va_up f 1 (fun _ => 0)))) = ([sO cy hh a kk dd b w ee qq ik, ia cy (hh 1) 7 (fnd C (cLay 1 x2 x3))] ++ (shB cy qq (if cLay 1 x2 x3 = 7 then va_up bi (bstN 1) x2 else bi) (va_up si 1 (if x2 = 0 then 0 else x3)) (va_up f 1 (fun _ => 0)))) := congrArg (fun z9 => [sO cy hh a kk dd b w ee qq ik, ia cy (hh 1) 7 (fnd C (cLay 1 x2 x3))] ++ (shB cy qq z9 (va_up si 1 (if x2 = 0 then 0 else x3)) (va_up f 1 (fun _ => 0)))) (show (va_up bi 1 x2) = (if cLay 1 x2 x3 = 7 then va_up bi (bstN 1) x2 else bi) from by rw [if_pos hcd]; simp only [hb0, hb1, hb2, hb3])
                  replace hP2 := (congrArg (fun z9 => va_P D vwCl z9 _) hq9).mp hP2
                  replace hD2 := (congrArg (fun z9 => va_D _ z9) hq9).mp hD2
                  clear hq9
                  have hq9 : ([sO cy hh a kk dd b w ee qq ik, ia cy (hh 1) 7 (fnd C (cLay 1 x2 x3))] ++ (shB cy qq (if cLay 1 x2 x3 = 7 then va_up bi (bstN 1) x2 else bi) (va_up si 1 (if x2 = 0 then 0 else x3)) (va_up f 1 (fun _ => 0)))) = ([sO cy hh a kk dd b w ee qq ik, ia cy (hh 1) 7 (fnd C (cLay 1 x2 x3))] ++ (shB cy qq (if cLay 1 x2 x3 = 7 then va_up bi (bstN 1) x2 else bi) (if cLay 1 x2 x3 = 7 then va_up si (bstN 1) (if x2 = 0 then 0 else x3) else si) (va_up f 1 (fun _ => 0)))) := congrArg (fun z9 => [sO cy hh a kk dd b w ee qq ik, ia cy (hh 1) 7 (fnd C (cLay 1 x2 x3))] ++ (shB cy qq (if cLay 1 x2 x3 = 7 then va_up bi (bstN 1) x2 else bi) z9 (va_up f 1 (fun _ => 0)))) (show (va_up si 1 (if x2 = 0 then 0 else x3)) = (if cLay 1 x2 x3 = 7 then va_up si (bstN 1) (if x2 = 0 then 0 else x3) else si) from by rw [if_pos hcd]; simp only [hb0, hb1, hb2, hb3])
                  replace hP2 := (congrArg (fun z9 => va_P D vwCl z9 _) hq9).mp hP2
                  replace hD2 := (congrArg (fun z9 => va_D _ z9) hq9).mp hD2
                  clear hq9
                  have hq9 : ([sO cy hh a kk dd b w ee qq ik, ia cy (hh 1) 7 (fnd C (cLay 1 x2 x3))] ++ (shB cy qq (if cLay 1 x2 x3 = 7 then va_up bi (bstN 1) x2 else bi) (if cLay 1 x2 x3 = 7 then va_up si (bstN 1) (if x2 = 0 then 0 else x3) else si) (va_up f 1 (fun _ => 0)))) = ([sO cy hh a kk dd b w ee qq ik, ia cy (hh 1) 7 (fnd C (cLay 1 x2 x3))] ++ (shB cy qq (if cLay 1 x2 x3 = 7 then va_up bi (bstN 1) x2 else bi) (if cLay 1 x2 x3 = 7 then va_up si (bstN 1) (if x2 = 0 then 0 else x3) else si) (if cLay 1 x2 x3 = 7 then va_up f (bstN 1) (fun _ => 0) else f))) := congrArg (fun z9 => [sO cy hh a kk dd b w ee qq ik, ia cy (hh 1) 7 (fnd C (cLay 1 x2 x3))] ++ (shB cy qq (if cLay 1 x2 x3 = 7 then va_up bi (bstN 1) x2 else bi) (if cLay 1 x2 x3 = 7 then va_up si (bstN 1) (if x2 = 0 then 0 else x3) else si) z9)) (show (va_up f 1 (fun _ => 0)) = (if cLay 1 x2 x3 = 7 then va_up f (bstN 1) (fun _ => 0) else f) from by rw [if_pos hcd]; simp only [hb0, hb1, hb2, hb3])
                  replace hP2 := (congrArg (fun z9 => va_P D vwCl z9 _) hq9).mp hP2
                  replace hD2 := (congrArg (fun z9 => va_D _ z9) hq9).mp hD2
                  clear hq9
                  refine re_i () hx hb hr hlocks hP2 hD2 hS2 dX6_sheet_87 ?_
                  exact (ans_o hcd (rfl))
              · replace hP1 : va_P D vwCl ([sO cy hh a kk dd b w ee qq ik, ia cy (hh 1) 7 C, qsB cy qq, hO cy (qq 1) (qq 5) (bi 0) (si 0), hO cy (qq 2) (qq 6) (bi 1) (si 1), hO cy (qq 3) (qq 7) (bi 2) (si 2), hO cy (qq 4) (qq 8) (bi 3) (si 3), la cy (qq 5) 40 (f 0), la cy (qq 6) 40 (f 1), la cy (qq 7) 40 (f 2), la cy (qq 8) 40 (f 3)]) H1 := hP1
                replace hD1 : va_D (va_A _ sz) ([sO cy hh a kk dd b w ee qq ik, ia cy (hh 1) 7 C, qsB cy qq, hO cy (qq 1) (qq 5) (bi 0) (si 0), hO cy (qq 2) (qq 6) (bi 1) (si 1), hO cy (qq 3) (qq 7) (bi 2) (si 2), hO cy (qq 4) (qq 8) (bi 3) (si 3), la cy (qq 5) 40 (f 0), la cy (qq 6) 40 (f 1), la cy (qq 7) 40 (f 2), la cy (qq 8) 40 (f 3)]) := hD1
                refine lv_aload_n hx hb dX6_sheet_59 rfl (lv_at hl0 0 rfl) ?_
                refine va_get (D := D) (ci := 6) (v := .ref (qq 0)) (C := RX6) (T := TX6) (N := 9) hx hb hw iX6 hown hK hP1 0 rfl rfl 7 (by decide) (hw _ kw_2_34) (fun _ h9 => h9) rfl dX6_sheet_60 ?_
                refine lv_iload_n hx hb dX6_sheet_63 rfl (lv_at hl0 1 rfl) ?_
                refine ald_q hx hb hK hP1 2 3 rfl rfl rfl 2 rfl (by first | omega | assumption) (by decide) (rfl) dX6_sheet_64 ?_
                refine lv_iload_n hx hb dX6_sheet_65 rfl (lv_at hl0 2 rfl) ?_
                refine lv_iload_n hx hb dX6_sheet_66 rfl (lv_at hl0 2 rfl) ?_
                refine lv_if_ne (tgt := 74) hx hb dX6_sheet_67 (by decide) (fun c_67 => ?_) (fun c_67 => ?_)
                · refine lv_iload_n hx hb dX6_sheet_74 rfl (lv_at hl0 3 rfl) ?_
                  refine tp (show (x3) = if x2 = 0 then 0 else x3 from (if_neg c_67).symm) ?_
                  refine cV_v (wc := [hO cy (qq 3) (qq 7) (bi 2) (si 2), la cy (qq 7) 40 (f 2)]) (wr := [sO cy hh a kk dd b w ee qq ik, ia cy (hh 1) 7 C, qsB cy qq, hO cy (qq 1) (qq 5) (bi 0) (si 0), hO cy (qq 2) (qq 6) (bi 1) (si 1), hO cy (qq 4) (qq 8) (bi 3) (si 3), la cy (qq 5) 40 (f 0), la cy (qq 6) 40 (f 1), la cy (qq 8) 40 (f 3)]) (rest := []) hx hb hml hown hw hG hK hP1 hD1 hS1 hA hl0 kc_X2_lay kw_4_0 [.int x2, .int (if x2 = 0 then 0 else x3)] (c_X2_lay l D cy G H1.size (qq 3) (qq 7) (bi 2) (si 2) (f 2) x2 (if x2 = 0 then 0 else x3) ((hso 2 (by decide)).2.2)) [5, 9] [0, 1, 2, 3, 4, 6, 7, 8, 10] rfl rfl rfl rfl rfl 0 rfl rfl rfl rfl rfl (Nat.le_of_ble_eq_true rfl) ⟨Nat.le_of_ble_eq_true rfl, Nat.le_of_ble_eq_true rfl⟩ dX6_sheet_75 ⟨Nat.le_of_ble_eq_true rfl, Nat.le_of_ble_eq_true rfl⟩ (fun u9 H2 locs2 hu9 hP2 hD2 hS2 => ?_)
                  clear hP1 hD1 hS1 locs1 H1
                  replace hP2 : va_P D vwCl ([sO cy hh a kk dd b w ee qq ik, ia cy (hh 1) 7 C, qsB cy qq, hO cy (qq 1) (qq 5) (bi 0) (si 0), hO cy (qq 2) (qq 6) (bi 1) (si 1), hO cy (qq 4) (qq 8) (bi 3) (si 3), la cy (qq 5) 40 (f 0), la cy (qq 6) 40 (f 1), la cy (qq 8) 40 (f 3), hO cy (qq 3) (qq 7) x2 (if x2 = 0 then 0 else x3), la cy (qq 7) 40 (fun _ => 0)]) H2 := hP2
                  replace hD2 : va_D (va_A _ sz) ([sO cy hh a kk dd b w ee qq ik, ia cy (hh 1) 7 C, qsB cy qq, hO cy (qq 1) (qq 5) (bi 0) (si 0), hO cy (qq 2) (qq 6) (bi 1) (si 1), hO cy (qq 4) (qq 8) (bi 3) (si 3), la cy (qq 5) 40 (f 0), la cy (qq 6) 40 (f 1), la cy (qq 8) 40 (f 3), hO cy (qq 3) (qq 7) x2 (if x2 = 0 then 0 else x3), la cy (qq 7) 40 (fun _ => 0)]) := hD2
                  replace hP2 := hP2.sub (ws' := [sO cy hh a kk dd b w ee qq ik, ia cy (hh 1) 7 C, qsB cy qq, hO cy (qq 1) (qq 5) (bi 0) (si 0), hO cy (qq 2) (qq 6) (bi 1) (si 1), hO cy (qq 3) (qq 7) x2 (if x2 = 0 then 0 else x3), hO cy (qq 4) (qq 8) (bi 3) (si 3), la cy (qq 5) 40 (f 0), la cy (qq 6) 40 (f 1), la cy (qq 7) 40 (fun _ => 0), la cy (qq 8) 40 (f 3)]) [0, 1, 2, 3, 4, 9, 5, 6, 7, 10, 8] rfl
                  replace hD2 := hD2.sub (ws' := [sO cy hh a kk dd b w ee qq ik, ia cy (hh 1) 7 C, qsB cy qq, hO cy (qq 1) (qq 5) (bi 0) (si 0), hO cy (qq 2) (qq 6) (bi 1) (si 1), hO cy (qq 3) (qq 7) x2 (if x2 = 0 then 0 else x3), hO cy (qq 4) (qq 8) (bi 3) (si 3), la cy (qq 5) 40 (f 0), la cy (qq 6) 40 (f 1), la cy (qq 7) 40 (fun _ => 0), la cy (qq 8) 40 (f 3)]) [0, 1, 2, 3, 4, 9, 5, 6, 7, 10, 8] (by decide) rfl
                  refine lv_aload_n hx hb dX6_sheet_78 rfl (lv_at hl0 0 rfl) ?_
                  refine va_get (D := D) (ci := 6) (v := .ref (qq 0)) (C := RX6) (T := TX6) (N := 9) hx hb hw iX6 hown hK hP2 0 rfl rfl 7 (by decide) (hw _ kw_2_34) (fun _ h9 => h9) rfl dX6_sheet_79 ?_
                  refine lv_iload_n hx hb dX6_sheet_82 rfl (lv_at hl0 1 rfl) ?_
                  refine ald_q hx hb hK hP2 2 3 rfl rfl rfl 2 rfl (by first | omega | assumption) (by decide) (rfl) dX6_sheet_83 ?_
                  refine va_get (D := D) (ci := 2) (v := .int (if x2 = 0 then 0 else x3)) (C := RX2) (T := TX2) (N := 3) hx hb hw iX2 hown hK hP2 5 rfl rfl 2 (by decide) (hw _ kw_2_18) (fun _ h9 => h9) rfl dX6_sheet_84 ?_
                  replace hP2 : va_P D vwCl ([sO cy hh a kk dd b w ee qq ik, ia cy (hh 1) 7 C] ++ (shB cy qq (va_up bi 2 x2) (va_up si 2 (if x2 = 0 then 0 else x3)) (va_up f 2 (fun _ => 0)))) H2 := hP2
                  replace hD2 : va_D (va_A _ sz) ([sO cy hh a kk dd b w ee qq ik, ia cy (hh 1) 7 C] ++ (shB cy qq (va_up bi 2 x2) (va_up si 2 (if x2 = 0 then 0 else x3)) (va_up f 2 (fun _ => 0)))) := hD2
                  have hcd : cLay 2 x2 x3 = 7 := by unfold cLay; clear hx hb hml hown hr hlocks hw hsz hA hG hK hP2 hD2 hS2 hl0; grind
                  have hq9 : ([sO cy hh a kk dd b w ee qq ik, ia cy (hh 1) 7 C] ++ (shB cy qq (va_up bi 2 x2) (va_up si 2 (if x2 = 0 then 0 else x3)) (va_up f 2 (fun _ => 0)))) = ([sO cy hh a kk dd b w ee qq ik, ia cy (hh 1) 7 (fnd C (cLay 2 x2 x3))] ++ (shB cy qq (va_up bi 2 x2) (va_up si 2 (if x2 = 0 then 0 else x3)) (va_up f 2 (fun _ => 0)))) := congrArg (fun z9 => [sO cy hh a kk dd b w ee qq ik, ia cy (hh 1) 7 z9] ++ (shB cy qq (va_up bi 2 x2) (va_up si 2 (if x2 = 0 then 0 else x3)) (va_up f 2 (fun _ => 0)))) (show C = (fnd C (cLay 2 x2 x3)) from fnd_o hcd)
                  replace hP2 := (congrArg (fun z9 => va_P D vwCl z9 _) hq9).mp hP2
                  replace hD2 := (congrArg (fun z9 => va_D _ z9) hq9).mp hD2
                  clear hq9
                  have hq9 : ([sO cy hh a kk dd b w ee qq ik, ia cy (hh 1) 7 (fnd C (cLay 2 x2 x3))] ++ (shB cy qq (va_up bi 2 x2) (va_up si 2 (if x2 = 0 then 0 else x3)) (va_up f 2 (fun _ => 0)))) = ([sO cy hh a kk dd b w ee qq ik, ia cy (hh 1) 7 (fnd C (cLay 2 x2 x3))] ++ (shB cy qq (if cLay 2 x2 x3 = 7 then va_up bi (bstN 2) x2 else bi) (va_up si 2 (if x2 = 0 then 0 else x3)) (va_up f 2 (fun _ => 0)))) := congrArg (fun z9 => [sO cy hh a kk dd b w ee qq ik, ia cy (hh 1) 7 (fnd C (cLay 2 x2 x3))] ++ (shB cy qq z9 (va_up si 2 (if x2 = 0 then 0 else x3)) (va_up f 2 (fun _ => 0)))) (show (va_up bi 2 x2) = (if cLay 2 x2 x3 = 7 then va_up bi (bstN 2) x2 else bi) from by rw [if_pos hcd]; simp only [hb0, hb1, hb2, hb3])
                  replace hP2 := (congrArg (fun z9 => va_P D vwCl z9 _) hq9).mp hP2
                  replace hD2 := (congrArg (fun z9 => va_D _ z9) hq9).mp hD2
                  clear hq9
                  have hq9 : ([sO cy hh a kk dd b w ee qq ik, ia cy (hh 1) 7 (fnd C (cLay 2 x2 x3))] ++ (shB cy qq (if cLay 2 x2 x3 = 7 then va_up bi (bstN 2) x2 else bi) (va_up si 2 (if x2 = 0 then 0 else x3)) (va_up f 2 (fun _ => 0)))) = ([sO cy hh a kk dd b w ee qq ik, ia cy (hh 1) 7 (fnd C (cLay 2 x2 x3))] ++ (shB cy qq (if cLay 2 x2 x3 = 7 then va_up bi (bstN 2) x2 else bi) (if cLay 2 x2 x3 = 7 then va_up si (bstN 2) (if x2 = 0 then 0 else x3) else si) (va_up f 2 (fun _ => 0)))) := congrArg (fun z9 => [sO cy hh a kk dd b w ee qq ik, ia cy (hh 1) 7 (fnd C (cLay 2 x2 x3))] ++ (shB cy qq (if cLay 2 x2 x3 = 7 then va_up bi (bstN 2) x2 else bi) z9 (va_up f 2 (fun _ => 0)))) (show (va_up si 2 (if x2 = 0 then 0 else x3)) = (if cLay 2 x2 x3 = 7 then va_up si (bstN 2) (if x2 = 0 then 0 else x3) else si) from by rw [if_pos hcd]; simp only [hb0, hb1, hb2, hb3])
                  replace hP2 := (congrArg (fun z9 => va_P D vwCl z9 _) hq9).mp hP2
                  replace hD2 := (congrArg (fun z9 => va_D _ z9) hq9).mp hD2
                  clear hq9
                  have hq9 : ([sO cy hh a kk dd b w ee qq ik, ia cy (hh 1) 7 (fnd C (cLay 2 x2 x3))] ++ (shB cy qq (if cLay 2 x2 x3 = 7 then va_up bi (bstN 2) x2 else bi) (if cLay 2 x2 x3 = 7 then va_up si (bstN 2) (if x2 = 0 then 0 else x3) else si) (va_up f 2 (fun _ => 0)))) = ([sO cy hh a kk dd b w ee qq ik, ia cy (hh 1) 7 (fnd C (cLay 2 x2 x3))] ++ (shB cy qq (if cLay 2 x2 x3 = 7 then va_up bi (bstN 2) x2 else bi) (if cLay 2 x2 x3 = 7 then va_up si (bstN 2) (if x2 = 0 then 0 else x3) else si) (if cLay 2 x2 x3 = 7 then va_up f (bstN 2) (fun _ => 0) else f))) := congrArg (fun z9 => [sO cy hh a kk dd b w ee qq ik, ia cy (hh 1) 7 (fnd C (cLay 2 x2 x3))] ++ (shB cy qq (if cLay 2 x2 x3 = 7 then va_up bi (bstN 2) x2 else bi) (if cLay 2 x2 x3 = 7 then va_up si (bstN 2) (if x2 = 0 then 0 else x3) else si) z9)) (show (va_up f 2 (fun _ => 0)) = (if cLay 2 x2 x3 = 7 then va_up f (bstN 2) (fun _ => 0) else f) from by rw [if_pos hcd]; simp only [hb0, hb1, hb2, hb3])
                  replace hP2 := (congrArg (fun z9 => va_P D vwCl z9 _) hq9).mp hP2
                  replace hD2 := (congrArg (fun z9 => va_D _ z9) hq9).mp hD2
                  clear hq9
                  refine re_i () hx hb hr hlocks hP2 hD2 hS2 dX6_sheet_87 ?_
                  exact (ans_o hcd (rfl))
                · refine lv_iconst (v := 0) hx hb dX6_sheet_70 (by decide) ?_
                  refine lv_goto (tgt := 75) hx hb dX6_sheet_71 (by decide) ?_
                  refine tp (show (0) = if x2 = 0 then 0 else x3 from (if_pos c_67).symm) ?_
                  refine cV_v (wc := [hO cy (qq 3) (qq 7) (bi 2) (si 2), la cy (qq 7) 40 (f 2)]) (wr := [sO cy hh a kk dd b w ee qq ik, ia cy (hh 1) 7 C, qsB cy qq, hO cy (qq 1) (qq 5) (bi 0) (si 0), hO cy (qq 2) (qq 6) (bi 1) (si 1), hO cy (qq 4) (qq 8) (bi 3) (si 3), la cy (qq 5) 40 (f 0), la cy (qq 6) 40 (f 1), la cy (qq 8) 40 (f 3)]) (rest := []) hx hb hml hown hw hG hK hP1 hD1 hS1 hA hl0 kc_X2_lay kw_4_0 [.int x2, .int (if x2 = 0 then 0 else x3)] (c_X2_lay l D cy G H1.size (qq 3) (qq 7) (bi 2) (si 2) (f 2) x2 (if x2 = 0 then 0 else x3) ((hso 2 (by decide)).2.2)) [5, 9] [0, 1, 2, 3, 4, 6, 7, 8, 10] rfl rfl rfl rfl rfl 0 rfl rfl rfl rfl rfl (Nat.le_of_ble_eq_true rfl) ⟨Nat.le_of_ble_eq_true rfl, Nat.le_of_ble_eq_true rfl⟩ dX6_sheet_75 ⟨Nat.le_of_ble_eq_true rfl, Nat.le_of_ble_eq_true rfl⟩ (fun u9 H2 locs2 hu9 hP2 hD2 hS2 => ?_)
                  clear hP1 hD1 hS1 locs1 H1
                  replace hP2 : va_P D vwCl ([sO cy hh a kk dd b w ee qq ik, ia cy (hh 1) 7 C, qsB cy qq, hO cy (qq 1) (qq 5) (bi 0) (si 0), hO cy (qq 2) (qq 6) (bi 1) (si 1), hO cy (qq 4) (qq 8) (bi 3) (si 3), la cy (qq 5) 40 (f 0), la cy (qq 6) 40 (f 1), la cy (qq 8) 40 (f 3), hO cy (qq 3) (qq 7) x2 (if x2 = 0 then 0 else x3), la cy (qq 7) 40 (fun _ => 0)]) H2 := hP2
                  replace hD2 : va_D (va_A _ sz) ([sO cy hh a kk dd b w ee qq ik, ia cy (hh 1) 7 C, qsB cy qq, hO cy (qq 1) (qq 5) (bi 0) (si 0), hO cy (qq 2) (qq 6) (bi 1) (si 1), hO cy (qq 4) (qq 8) (bi 3) (si 3), la cy (qq 5) 40 (f 0), la cy (qq 6) 40 (f 1), la cy (qq 8) 40 (f 3), hO cy (qq 3) (qq 7) x2 (if x2 = 0 then 0 else x3), la cy (qq 7) 40 (fun _ => 0)]) := hD2
                  replace hP2 := hP2.sub (ws' := [sO cy hh a kk dd b w ee qq ik, ia cy (hh 1) 7 C, qsB cy qq, hO cy (qq 1) (qq 5) (bi 0) (si 0), hO cy (qq 2) (qq 6) (bi 1) (si 1), hO cy (qq 3) (qq 7) x2 (if x2 = 0 then 0 else x3), hO cy (qq 4) (qq 8) (bi 3) (si 3), la cy (qq 5) 40 (f 0), la cy (qq 6) 40 (f 1), la cy (qq 7) 40 (fun _ => 0), la cy (qq 8) 40 (f 3)]) [0, 1, 2, 3, 4, 9, 5, 6, 7, 10, 8] rfl
                  replace hD2 := hD2.sub (ws' := [sO cy hh a kk dd b w ee qq ik, ia cy (hh 1) 7 C, qsB cy qq, hO cy (qq 1) (qq 5) (bi 0) (si 0), hO cy (qq 2) (qq 6) (bi 1) (si 1), hO cy (qq 3) (qq 7) x2 (if x2 = 0 then 0 else x3), hO cy (qq 4) (qq 8) (bi 3) (si 3), la cy (qq 5) 40 (f 0), la cy (qq 6) 40 (f 1), la cy (qq 7) 40 (fun _ => 0), la cy (qq 8) 40 (f 3)]) [0, 1, 2, 3, 4, 9, 5, 6, 7, 10, 8] (by decide) rfl
                  refine lv_aload_n hx hb dX6_sheet_78 rfl (lv_at hl0 0 rfl) ?_
                  refine va_get (D := D) (ci := 6) (v := .ref (qq 0)) (C := RX6) (T := TX6) (N := 9) hx hb hw iX6 hown hK hP2 0 rfl rfl 7 (by decide) (hw _ kw_2_34) (fun _ h9 => h9) rfl dX6_sheet_79 ?_
                  refine lv_iload_n hx hb dX6_sheet_82 rfl (lv_at hl0 1 rfl) ?_
                  refine ald_q hx hb hK hP2 2 3 rfl rfl rfl 2 rfl (by first | omega | assumption) (by decide) (rfl) dX6_sheet_83 ?_
                  refine va_get (D := D) (ci := 2) (v := .int (if x2 = 0 then 0 else x3)) (C := RX2) (T := TX2) (N := 3) hx hb hw iX2 hown hK hP2 5 rfl rfl 2 (by decide) (hw _ kw_2_18) (fun _ h9 => h9) rfl dX6_sheet_84 ?_
                  replace hP2 : va_P D vwCl ([sO cy hh a kk dd b w ee qq ik, ia cy (hh 1) 7 C] ++ (shB cy qq (va_up bi 2 x2) (va_up si 2 (if x2 = 0 then 0 else x3)) (va_up f 2 (fun _ => 0)))) H2 := hP2
                  replace hD2 : va_D (va_A _ sz) ([sO cy hh a kk dd b w ee qq ik, ia cy (hh 1) 7 C] ++ (shB cy qq (va_up bi 2 x2) (va_up si 2 (if x2 = 0 then 0 else x3)) (va_up f 2 (fun _ => 0)))) := hD2
                  have hcd : cLay 2 x2 x3 = 7 := by unfold cLay; clear hx hb hml hown hr hlocks hw hsz hA hG hK hP2 hD2 hS2 hl0; grind
                  have hq9 : ([sO cy hh a kk dd b w ee qq ik, ia cy (hh 1) 7 C] ++ (shB cy qq (va_up bi 2 x2) (va_up si 2 (if x2 = 0 then 0 else x3)) (va_up f 2 (fun _ => 0)))) = ([sO cy hh a kk dd b w ee qq ik, ia cy (hh 1) 7 (fnd C (cLay 2 x2 x3))] ++ (shB cy qq (va_up bi 2 x2) (va_up si 2 (if x2 = 0 then 0 else x3)) (va_up f 2 (fun _ => 0)))) := congrArg (fun z9 => [sO cy hh a kk dd b w ee qq ik, ia cy (hh 1) 7 z9] ++ (shB cy qq (va_up bi 2 x2) (va_up si 2 (if x2 = 0 then 0 else x3)) (va_up f 2 (fun _ => 0)))) (show C = (fnd C (cLay 2 x2 x3)) from fnd_o hcd)
                  replace hP2 := (congrArg (fun z9 => va_P D vwCl z9 _) hq9).mp hP2
                  replace hD2 := (congrArg (fun z9 => va_D _ z9) hq9).mp hD2
                  clear hq9
                  have hq9 : ([sO cy hh a kk dd b w ee qq ik, ia cy (hh 1) 7 (fnd C (cLay 2 x2 x3))] ++ (shB cy qq (va_up bi 2 x2) (va_up si 2 (if x2 = 0 then 0 else x3)) (va_up f 2 (fun _ => 0)))) = ([sO cy hh a kk dd b w ee qq ik, ia cy (hh 1) 7 (fnd C (cLay 2 x2 x3))] ++ (shB cy qq (if cLay 2 x2 x3 = 7 then va_up bi (bstN 2) x2 else bi) (va_up si 2 (if x2 = 0 then 0 else x3)) (va_up f 2 (fun _ => 0)))) := congrArg (fun z9 => [sO cy hh a kk dd b w ee qq ik, ia cy (hh 1) 7 (fnd C (cLay 2 x2 x3))] ++ (shB cy qq z9 (va_up si 2 (if x2 = 0 then 0 else x3)) (va_up f 2 (fun _ => 0)))) (show (va_up bi 2 x2) = (if cLay 2 x2 x3 = 7 then va_up bi (bstN 2) x2 else bi) from by rw [if_pos hcd]; simp only [hb0, hb1, hb2, hb3])
                  replace hP2 := (congrArg (fun z9 => va_P D vwCl z9 _) hq9).mp hP2
                  replace hD2 := (congrArg (fun z9 => va_D _ z9) hq9).mp hD2
                  clear hq9
                  have hq9 : ([sO cy hh a kk dd b w ee qq ik, ia cy (hh 1) 7 (fnd C (cLay 2 x2 x3))] ++ (shB cy qq (if cLay 2 x2 x3 = 7 then va_up bi (bstN 2) x2 else bi) (va_up si 2 (if x2 = 0 then 0 else x3)) (va_up f 2 (fun _ => 0)))) = ([sO cy hh a kk dd b w ee qq ik, ia cy (hh 1) 7 (fnd C (cLay 2 x2 x3))] ++ (shB cy qq (if cLay 2 x2 x3 = 7 then va_up bi (bstN 2) x2 else bi) (if cLay 2 x2 x3 = 7 then va_up si (bstN 2) (if x2 = 0 then 0 else x3) else si) (va_up f 2 (fun _ => 0)))) := congrArg (fun z9 => [sO cy hh a kk dd b w ee qq ik, ia cy (hh 1) 7 (fnd C (cLay 2 x2 x3))] ++ (shB cy qq (if cLay 2 x2 x3 = 7 then va_up bi (bstN 2) x2 else bi) z9 (va_up f 2 (fun _ => 0)))) (show (va_up si 2 (if x2 = 0 then 0 else x3)) = (if cLay 2 x2 x3 = 7 then va_up si (bstN 2) (if x2 = 0 then 0 else x3) else si) from by rw [if_pos hcd]; simp only [hb0, hb1, hb2, hb3])
                  replace hP2 := (congrArg (fun z9 => va_P D vwCl z9 _) hq9).mp hP2
                  replace hD2 := (congrArg (fun z9 => va_D _ z9) hq9).mp hD2
                  clear hq9
                  have hq9 : ([sO cy hh a kk dd b w ee qq ik, ia cy (hh 1) 7 (fnd C (cLay 2 x2 x3))] ++ (shB cy qq (if cLay 2 x2 x3 = 7 then va_up bi (bstN 2) x2 else bi) (if cLay 2 x2 x3 = 7 then va_up si (bstN 2) (if x2 = 0 then 0 else x3) else si) (va_up f 2 (fun _ => 0)))) = ([sO cy hh a kk dd b w ee qq ik, ia cy (hh 1) 7 (fnd C (cLay 2 x2 x3))] ++ (shB cy qq (if cLay 2 x2 x3 = 7 then va_up bi (bstN 2) x2 else bi) (if cLay 2 x2 x3 = 7 then va_up si (bstN 2) (if x2 = 0 then 0 else x3) else si) (if cLay 2 x2 x3 = 7 then va_up f (bstN 2) (fun _ => 0) else f))) := congrArg (fun z9 => [sO cy hh a kk dd b w ee qq ik, ia cy (hh 1) 7 (fnd C (cLay 2 x2 x3))] ++ (shB cy qq (if cLay 2 x2 x3 = 7 then va_up bi (bstN 2) x2 else bi) (if cLay 2 x2 x3 = 7 then va_up si (bstN 2) (if x2 = 0 then 0 else x3) else si) z9)) (show (va_up f 2 (fun _ => 0)) = (if cLay 2 x2 x3 = 7 then va_up f (bstN 2) (fun _ => 0) else f) from by rw [if_pos hcd]; simp only [hb0, hb1, hb2, hb3])
                  replace hP2 := (congrArg (fun z9 => va_P D vwCl z9 _) hq9).mp hP2
                  replace hD2 := (congrArg (fun z9 => va_D _ z9) hq9).mp hD2
                  clear hq9
                  refine re_i () hx hb hr hlocks hP2 hD2 hS2 dX6_sheet_87 ?_
                  exact (ans_o hcd (rfl))
              · replace hP1 : va_P D vwCl ([sO cy hh a kk dd b w ee qq ik, ia cy (hh 1) 7 C, qsB cy qq, hO cy (qq 1) (qq 5) (bi 0) (si 0), hO cy (qq 2) (qq 6) (bi 1) (si 1), hO cy (qq 3) (qq 7) (bi 2) (si 2), hO cy (qq 4) (qq 8) (bi 3) (si 3), la cy (qq 5) 40 (f 0), la cy (qq 6) 40 (f 1), la cy (qq 7) 40 (f 2), la cy (qq 8) 40 (f 3)]) H1 := hP1
                replace hD1 : va_D (va_A _ sz) ([sO cy hh a kk dd b w ee qq ik, ia cy (hh 1) 7 C, qsB cy qq, hO cy (qq 1) (qq 5) (bi 0) (si 0), hO cy (qq 2) (qq 6) (bi 1) (si 1), hO cy (qq 3) (qq 7) (bi 2) (si 2), hO cy (qq 4) (qq 8) (bi 3) (si 3), la cy (qq 5) 40 (f 0), la cy (qq 6) 40 (f 1), la cy (qq 7) 40 (f 2), la cy (qq 8) 40 (f 3)]) := hD1
                refine lv_aload_n hx hb dX6_sheet_59 rfl (lv_at hl0 0 rfl) ?_
                refine va_get (D := D) (ci := 6) (v := .ref (qq 0)) (C := RX6) (T := TX6) (N := 9) hx hb hw iX6 hown hK hP1 0 rfl rfl 7 (by decide) (hw _ kw_2_34) (fun _ h9 => h9) rfl dX6_sheet_60 ?_
                refine lv_iload_n hx hb dX6_sheet_63 rfl (lv_at hl0 1 rfl) ?_
                refine ald_q hx hb hK hP1 2 3 rfl rfl rfl 3 rfl (by first | omega | assumption) (by decide) (rfl) dX6_sheet_64 ?_
                refine lv_iload_n hx hb dX6_sheet_65 rfl (lv_at hl0 2 rfl) ?_
                refine lv_iload_n hx hb dX6_sheet_66 rfl (lv_at hl0 2 rfl) ?_
                refine lv_if_ne (tgt := 74) hx hb dX6_sheet_67 (by decide) (fun c_67 => ?_) (fun c_67 => ?_)
                · refine lv_iload_n hx hb dX6_sheet_74 rfl (lv_at hl0 3 rfl) ?_
                  refine tp (show (x3) = if x2 = 0 then 0 else x3 from (if_neg c_67).symm) ?_
                  refine cV_v (wc := [hO cy (qq 4) (qq 8) (bi 3) (si 3), la cy (qq 8) 40 (f 3)]) (wr := [sO cy hh a kk dd b w ee qq ik, ia cy (hh 1) 7 C, qsB cy qq, hO cy (qq 1) (qq 5) (bi 0) (si 0), hO cy (qq 2) (qq 6) (bi 1) (si 1), hO cy (qq 3) (qq 7) (bi 2) (si 2), la cy (qq 5) 40 (f 0), la cy (qq 6) 40 (f 1), la cy (qq 7) 40 (f 2)]) (rest := []) hx hb hml hown hw hG hK hP1 hD1 hS1 hA hl0 kc_X2_lay kw_4_0 [.int x2, .int (if x2 = 0 then 0 else x3)] (c_X2_lay l D cy G H1.size (qq 4) (qq 8) (bi 3) (si 3) (f 3) x2 (if x2 = 0 then 0 else x3) ((hso 3 (by decide)).2.2)) [6, 10] [0, 1, 2, 3, 4, 5, 7, 8, 9] rfl rfl rfl rfl rfl 0 rfl rfl rfl rfl rfl (Nat.le_of_ble_eq_true rfl) ⟨Nat.le_of_ble_eq_true rfl, Nat.le_of_ble_eq_true rfl⟩ dX6_sheet_75 ⟨Nat.le_of_ble_eq_true rfl, Nat.le_of_ble_eq_true rfl⟩ (fun u9 H2 locs2 hu9 hP2 hD2 hS2 => ?_)
                  clear hP1 hD1 hS1 locs1 H1
                  replace hP2 : va_P D vwCl ([sO cy hh a kk dd b w ee qq ik, ia cy (hh 1) 7 C, qsB cy qq, hO cy (qq 1) (qq 5) (bi 0) (si 0), hO cy (qq 2) (qq 6) (bi 1) (si 1), hO cy (qq 3) (qq 7) (bi 2) (si 2), la cy (qq 5) 40 (f 0), la cy (qq 6) 40 (f 1), la cy (qq 7) 40 (f 2), hO cy (qq 4) (qq 8) x2 (if x2 = 0 then 0 else x3), la cy (qq 8) 40 (fun _ => 0)]) H2 := hP2
                  replace hD2 : va_D (va_A _ sz) ([sO cy hh a kk dd b w ee qq ik, ia cy (hh 1) 7 C, qsB cy qq, hO cy (qq 1) (qq 5) (bi 0) (si 0), hO cy (qq 2) (qq 6) (bi 1) (si 1), hO cy (qq 3) (qq 7) (bi 2) (si 2), la cy (qq 5) 40 (f 0), la cy (qq 6) 40 (f 1), la cy (qq 7) 40 (f 2), hO cy (qq 4) (qq 8) x2 (if x2 = 0 then 0 else x3), la cy (qq 8) 40 (fun _ => 0)]) := hD2
                  replace hP2 := hP2.sub (ws' := [sO cy hh a kk dd b w ee qq ik, ia cy (hh 1) 7 C, qsB cy qq, hO cy (qq 1) (qq 5) (bi 0) (si 0), hO cy (qq 2) (qq 6) (bi 1) (si 1), hO cy (qq 3) (qq 7) (bi 2) (si 2), hO cy (qq 4) (qq 8) x2 (if x2 = 0 then 0 else x3), la cy (qq 5) 40 (f 0), la cy (qq 6) 40 (f 1), la cy (qq 7) 40 (f 2), la cy (qq 8) 40 (fun _ => 0)]) [0, 1, 2, 3, 4, 5, 9, 6, 7, 8, 10] rfl
                  replace hD2 := hD2.sub (ws' := [sO cy hh a kk dd b w ee qq ik, ia cy (hh 1) 7 C, qsB cy qq, hO cy (qq 1) (qq 5) (bi 0) (si 0), hO cy (qq 2) (qq 6) (bi 1) (si 1), hO cy (qq 3) (qq 7) (bi 2) (si 2), hO cy (qq 4) (qq 8) x2 (if x2 = 0 then 0 else x3), la cy (qq 5) 40 (f 0), la cy (qq 6) 40 (f 1), la cy (qq 7) 40 (f 2), la cy (qq 8) 40 (fun _ => 0)]) [0, 1, 2, 3, 4, 5, 9, 6, 7, 8, 10] (by decide) rfl
                  refine lv_aload_n hx hb dX6_sheet_78 rfl (lv_at hl0 0 rfl) ?_
                  refine va_get (D := D) (ci := 6) (v := .ref (qq 0)) (C := RX6) (T := TX6) (N := 9) hx hb hw iX6 hown hK hP2 0 rfl rfl 7 (by decide) (hw _ kw_2_34) (fun _ h9 => h9) rfl dX6_sheet_79 ?_
                  refine lv_iload_n hx hb dX6_sheet_82 rfl (lv_at hl0 1 rfl) ?_
                  refine ald_q hx hb hK hP2 2 3 rfl rfl rfl 3 rfl (by first | omega | assumption) (by decide) (rfl) dX6_sheet_83 ?_
                  refine va_get (D := D) (ci := 2) (v := .int (if x2 = 0 then 0 else x3)) (C := RX2) (T := TX2) (N := 3) hx hb hw iX2 hown hK hP2 6 rfl rfl 2 (by decide) (hw _ kw_2_18) (fun _ h9 => h9) rfl dX6_sheet_84 ?_
                  replace hP2 : va_P D vwCl ([sO cy hh a kk dd b w ee qq ik, ia cy (hh 1) 7 C] ++ (shB cy qq (va_up bi 3 x2) (va_up si 3 (if x2 = 0 then 0 else x3)) (va_up f 3 (fun _ => 0)))) H2 := hP2
                  replace hD2 : va_D (va_A _ sz) ([sO cy hh a kk dd b w ee qq ik, ia cy (hh 1) 7 C] ++ (shB cy qq (va_up bi 3 x2) (va_up si 3 (if x2 = 0 then 0 else x3)) (va_up f 3 (fun _ => 0)))) := hD2
                  have hcd : cLay 3 x2 x3 = 7 := by unfold cLay; clear hx hb hml hown hr hlocks hw hsz hA hG hK hP2 hD2 hS2 hl0; grind
                  have hq9 : ([sO cy hh a kk dd b w ee qq ik, ia cy (hh 1) 7 C] ++ (shB cy qq (va_up bi 3 x2) (va_up si 3 (if x2 = 0 then 0 else x3)) (va_up f 3 (fun _ => 0)))) = ([sO cy hh a kk dd b w ee qq ik, ia cy (hh 1) 7 (fnd C (cLay 3 x2 x3))] ++ (shB cy qq (va_up bi 3 x2) (va_up si 3 (if x2 = 0 then 0 else x3)) (va_up f 3 (fun _ => 0)))) := congrArg (fun z9 => [sO cy hh a kk dd b w ee qq ik, ia cy (hh 1) 7 z9] ++ (shB cy qq (va_up bi 3 x2) (va_up si 3 (if x2 = 0 then 0 else x3)) (va_up f 3 (fun _ => 0)))) (show C = (fnd C (cLay 3 x2 x3)) from fnd_o hcd)
                  replace hP2 := (congrArg (fun z9 => va_P D vwCl z9 _) hq9).mp hP2
                  replace hD2 := (congrArg (fun z9 => va_D _ z9) hq9).mp hD2
                  clear hq9
                  have hq9 : ([sO cy hh a kk dd b w ee qq ik, ia cy (hh 1) 7 (fnd C (cLay 3 x2 x3))] ++ (shB cy qq (va_up bi 3 x2) (va_up si 3 (if x2 = 0 then 0 else x3)) (va_up f 3 (fun _ => 0)))) = ([sO cy hh a kk dd b w ee qq ik, ia cy (hh 1) 7 (fnd C (cLay 3 x2 x3))] ++ (shB cy qq (if cLay 3 x2 x3 = 7 then va_up bi (bstN 3) x2 else bi) (va_up si 3 (if x2 = 0 then 0 else x3)) (va_up f 3 (fun _ => 0)))) := congrArg (fun z9 => [sO cy hh a kk dd b w ee qq ik, ia cy (hh 1) 7 (fnd C (cLay 3 x2 x3))] ++ (shB cy qq z9 (va_up si 3 (if x2 = 0 then 0 else x3)) (va_up f 3 (fun _ => 0)))) (show (va_up bi 3 x2) = (if cLay 3 x2 x3 = 7 then va_up bi (bstN 3) x2 else bi) from by rw [if_pos hcd]; simp only [hb0, hb1, hb2, hb3])
                  replace hP2 := (congrArg (fun z9 => va_P D vwCl z9 _) hq9).mp hP2
                  replace hD2 := (congrArg (fun z9 => va_D _ z9) hq9).mp hD2
                  clear hq9
                  have hq9 : ([sO cy hh a kk dd b w ee qq ik, ia cy (hh 1) 7 (fnd C (cLay 3 x2 x3))] ++ (shB cy qq (if cLay 3 x2 x3 = 7 then va_up bi (bstN 3) x2 else bi) (va_up si 3 (if x2 = 0 then 0 else x3)) (va_up f 3 (fun _ => 0)))) = ([sO cy hh a kk dd b w ee qq ik, ia cy (hh 1) 7 (fnd C (cLay 3 x2 x3))] ++ (shB cy qq (if cLay 3 x2 x3 = 7 then va_up bi (bstN 3) x2 else bi) (if cLay 3 x2 x3 = 7 then va_up si (bstN 3) (if x2 = 0 then 0 else x3) else si) (va_up f 3 (fun _ => 0)))) := congrArg (fun z9 => [sO cy hh a kk dd b w ee qq ik, ia cy (hh 1) 7 (fnd C (cLay 3 x2 x3))] ++ (shB cy qq (if cLay 3 x2 x3 = 7 then va_up bi (bstN 3) x2 else bi) z9 (va_up f 3 (fun _ => 0)))) (show (va_up si 3 (if x2 = 0 then 0 else x3)) = (if cLay 3 x2 x3 = 7 then va_up si (bstN 3) (if x2 = 0 then 0 else x3) else si) from by rw [if_pos hcd]; simp only [hb0, hb1, hb2, hb3])
                  replace hP2 := (congrArg (fun z9 => va_P D vwCl z9 _) hq9).mp hP2
                  replace hD2 := (congrArg (fun z9 => va_D _ z9) hq9).mp hD2
                  clear hq9
                  have hq9 : ([sO cy hh a kk dd b w ee qq ik, ia cy (hh 1) 7 (fnd C (cLay 3 x2 x3))] ++ (shB cy qq (if cLay 3 x2 x3 = 7 then va_up bi (bstN 3) x2 else bi) (if cLay 3 x2 x3 = 7 then va_up si (bstN 3) (if x2 = 0 then 0 else x3) else si) (va_up f 3 (fun _ => 0)))) = ([sO cy hh a kk dd b w ee qq ik, ia cy (hh 1) 7 (fnd C (cLay 3 x2 x3))] ++ (shB cy qq (if cLay 3 x2 x3 = 7 then va_up bi (bstN 3) x2 else bi) (if cLay 3 x2 x3 = 7 then va_up si (bstN 3) (if x2 = 0 then 0 else x3) else si) (if cLay 3 x2 x3 = 7 then va_up f (bstN 3) (fun _ => 0) else f))) := congrArg (fun z9 => [sO cy hh a kk dd b w ee qq ik, ia cy (hh 1) 7 (fnd C (cLay 3 x2 x3))] ++ (shB cy qq (if cLay 3 x2 x3 = 7 then va_up bi (bstN 3) x2 else bi) (if cLay 3 x2 x3 = 7 then va_up si (bstN 3) (if x2 = 0 then 0 else x3) else si) z9)) (show (va_up f 3 (fun _ => 0)) = (if cLay 3 x2 x3 = 7 then va_up f (bstN 3) (fun _ => 0) else f) from by rw [if_pos hcd]; simp only [hb0, hb1, hb2, hb3])
                  replace hP2 := (congrArg (fun z9 => va_P D vwCl z9 _) hq9).mp hP2
                  replace hD2 := (congrArg (fun z9 => va_D _ z9) hq9).mp hD2
                  clear hq9
                  refine re_i () hx hb hr hlocks hP2 hD2 hS2 dX6_sheet_87 ?_
                  exact (ans_o hcd (rfl))
                · refine lv_iconst (v := 0) hx hb dX6_sheet_70 (by decide) ?_
                  refine lv_goto (tgt := 75) hx hb dX6_sheet_71 (by decide) ?_
                  refine tp (show (0) = if x2 = 0 then 0 else x3 from (if_pos c_67).symm) ?_
                  refine cV_v (wc := [hO cy (qq 4) (qq 8) (bi 3) (si 3), la cy (qq 8) 40 (f 3)]) (wr := [sO cy hh a kk dd b w ee qq ik, ia cy (hh 1) 7 C, qsB cy qq, hO cy (qq 1) (qq 5) (bi 0) (si 0), hO cy (qq 2) (qq 6) (bi 1) (si 1), hO cy (qq 3) (qq 7) (bi 2) (si 2), la cy (qq 5) 40 (f 0), la cy (qq 6) 40 (f 1), la cy (qq 7) 40 (f 2)]) (rest := []) hx hb hml hown hw hG hK hP1 hD1 hS1 hA hl0 kc_X2_lay kw_4_0 [.int x2, .int (if x2 = 0 then 0 else x3)] (c_X2_lay l D cy G H1.size (qq 4) (qq 8) (bi 3) (si 3) (f 3) x2 (if x2 = 0 then 0 else x3) ((hso 3 (by decide)).2.2)) [6, 10] [0, 1, 2, 3, 4, 5, 7, 8, 9] rfl rfl rfl rfl rfl 0 rfl rfl rfl rfl rfl (Nat.le_of_ble_eq_true rfl) ⟨Nat.le_of_ble_eq_true rfl, Nat.le_of_ble_eq_true rfl⟩ dX6_sheet_75 ⟨Nat.le_of_ble_eq_true rfl, Nat.le_of_ble_eq_true rfl⟩ (fun u9 H2 locs2 hu9 hP2 hD2 hS2 => ?_)
                  clear hP1 hD1 hS1 locs1 H1
                  replace hP2 : va_P D vwCl ([sO cy hh a kk dd b w ee qq ik, ia cy (hh 1) 7 C, qsB cy qq, hO cy (qq 1) (qq 5) (bi 0) (si 0), hO cy (qq 2) (qq 6) (bi 1) (si 1), hO cy (qq 3) (qq 7) (bi 2) (si 2), la cy (qq 5) 40 (f 0), la cy (qq 6) 40 (f 1), la cy (qq 7) 40 (f 2), hO cy (qq 4) (qq 8) x2 (if x2 = 0 then 0 else x3), la cy (qq 8) 40 (fun _ => 0)]) H2 := hP2
                  replace hD2 : va_D (va_A _ sz) ([sO cy hh a kk dd b w ee qq ik, ia cy (hh 1) 7 C, qsB cy qq, hO cy (qq 1) (qq 5) (bi 0) (si 0), hO cy (qq 2) (qq 6) (bi 1) (si 1), hO cy (qq 3) (qq 7) (bi 2) (si 2), la cy (qq 5) 40 (f 0), la cy (qq 6) 40 (f 1), la cy (qq 7) 40 (f 2), hO cy (qq 4) (qq 8) x2 (if x2 = 0 then 0 else x3), la cy (qq 8) 40 (fun _ => 0)]) := hD2
                  replace hP2 := hP2.sub (ws' := [sO cy hh a kk dd b w ee qq ik, ia cy (hh 1) 7 C, qsB cy qq, hO cy (qq 1) (qq 5) (bi 0) (si 0), hO cy (qq 2) (qq 6) (bi 1) (si 1), hO cy (qq 3) (qq 7) (bi 2) (si 2), hO cy (qq 4) (qq 8) x2 (if x2 = 0 then 0 else x3), la cy (qq 5) 40 (f 0), la cy (qq 6) 40 (f 1), la cy (qq 7) 40 (f 2), la cy (qq 8) 40 (fun _ => 0)]) [0, 1, 2, 3, 4, 5, 9, 6, 7, 8, 10] rfl
                  replace hD2 := hD2.sub (ws' := [sO cy hh a kk dd b w ee qq ik, ia cy (hh 1) 7 C, qsB cy qq, hO cy (qq 1) (qq 5) (bi 0) (si 0), hO cy (qq 2) (qq 6) (bi 1) (si 1), hO cy (qq 3) (qq 7) (bi 2) (si 2), hO cy (qq 4) (qq 8) x2 (if x2 = 0 then 0 else x3), la cy (qq 5) 40 (f 0), la cy (qq 6) 40 (f 1), la cy (qq 7) 40 (f 2), la cy (qq 8) 40 (fun _ => 0)]) [0, 1, 2, 3, 4, 5, 9, 6, 7, 8, 10] (by decide) rfl
                  refine lv_aload_n hx hb dX6_sheet_78 rfl (lv_at hl0 0 rfl) ?_
                  refine va_get (D := D) (ci := 6) (v := .ref (qq 0)) (C := RX6) (T := TX6) (N := 9) hx hb hw iX6 hown hK hP2 0 rfl rfl 7 (by decide) (hw _ kw_2_34) (fun _ h9 => h9) rfl dX6_sheet_79 ?_
                  refine lv_iload_n hx hb dX6_sheet_82 rfl (lv_at hl0 1 rfl) ?_
                  refine ald_q hx hb hK hP2 2 3 rfl rfl rfl 3 rfl (by first | omega | assumption) (by decide) (rfl) dX6_sheet_83 ?_
                  refine va_get (D := D) (ci := 2) (v := .int (if x2 = 0 then 0 else x3)) (C := RX2) (T := TX2) (N := 3) hx hb hw iX2 hown hK hP2 6 rfl rfl 2 (by decide) (hw _ kw_2_18) (fun _ h9 => h9) rfl dX6_sheet_84 ?_
                  replace hP2 : va_P D vwCl ([sO cy hh a kk dd b w ee qq ik, ia cy (hh 1) 7 C] ++ (shB cy qq (va_up bi 3 x2) (va_up si 3 (if x2 = 0 then 0 else x3)) (va_up f 3 (fun _ => 0)))) H2 := hP2
                  replace hD2 : va_D (va_A _ sz) ([sO cy hh a kk dd b w ee qq ik, ia cy (hh 1) 7 C] ++ (shB cy qq (va_up bi 3 x2) (va_up si 3 (if x2 = 0 then 0 else x3)) (va_up f 3 (fun _ => 0)))) := hD2
                  have hcd : cLay 3 x2 x3 = 7 := by unfold cLay; clear hx hb hml hown hr hlocks hw hsz hA hG hK hP2 hD2 hS2 hl0; grind
                  have hq9 : ([sO cy hh a kk dd b w ee qq ik, ia cy (hh 1) 7 C] ++ (shB cy qq (va_up bi 3 x2) (va_up si 3 (if x2 = 0 then 0 else x3)) (va_up f 3 (fun _ => 0)))) = ([sO cy hh a kk dd b w ee qq ik, ia cy (hh 1) 7 (fnd C (cLay 3 x2 x3))] ++ (shB cy qq (va_up bi 3 x2) (va_up si 3 (if x2 = 0 then 0 else x3)) (va_up f 3 (fun _ => 0)))) := congrArg (fun z9 => [sO cy hh a kk dd b w ee qq ik, ia cy (hh 1) 7 z9] ++ (shB cy qq (va_up bi 3 x2) (va_up si 3 (if x2 = 0 then 0 else x3)) (va_up f 3 (fun _ => 0)))) (show C = (fnd C (cLay 3 x2 x3)) from fnd_o hcd)
                  replace hP2 := (congrArg (fun z9 => va_P D vwCl z9 _) hq9).mp hP2
                  replace hD2 := (congrArg (fun z9 => va_D _ z9) hq9).mp hD2
                  clear hq9
                  have hq9 : ([sO cy hh a kk dd b w ee qq ik, ia cy (hh 1) 7 (fnd C (cLay 3 x2 x3))] ++ (shB cy qq (va_up bi 3 x2) (va_up si 3 (if x2 = 0 then 0 else x3)) (va_up f 3 (fun _ => 0)))) = ([sO cy hh a kk dd b w ee qq ik, ia cy (hh 1) 7 (fnd C (cLay 3 x2 x3))] ++ (shB cy qq (if cLay 3 x2 x3 = 7 then va_up bi (bstN 3) x2 else bi) (va_up si 3 (if x2 = 0 then 0 else x3)) (va_up f 3 (fun _ => 0)))) := congrArg (fun z9 => [sO cy hh a kk dd b w ee qq ik, ia cy (hh 1) 7 (fnd C (cLay 3 x2 x3))] ++ (shB cy qq z9 (va_up si 3 (if x2 = 0 then 0 else x3)) (va_up f 3 (fun _ => 0)))) (show (va_up bi 3 x2) = (if cLay 3 x2 x3 = 7 then va_up bi (bstN 3) x2 else bi) from by rw [if_pos hcd]; simp only [hb0, hb1, hb2, hb3])
                  replace hP2 := (congrArg (fun z9 => va_P D vwCl z9 _) hq9).mp hP2
                  replace hD2 := (congrArg (fun z9 => va_D _ z9) hq9).mp hD2
                  clear hq9
                  have hq9 : ([sO cy hh a kk dd b w ee qq ik, ia cy (hh 1) 7 (fnd C (cLay 3 x2 x3))] ++ (shB cy qq (if cLay 3 x2 x3 = 7 then va_up bi (bstN 3) x2 else bi) (va_up si 3 (if x2 = 0 then 0 else x3)) (va_up f 3 (fun _ => 0)))) = ([sO cy hh a kk dd b w ee qq ik, ia cy (hh 1) 7 (fnd C (cLay 3 x2 x3))] ++ (shB cy qq (if cLay 3 x2 x3 = 7 then va_up bi (bstN 3) x2 else bi) (if cLay 3 x2 x3 = 7 then va_up si (bstN 3) (if x2 = 0 then 0 else x3) else si) (va_up f 3 (fun _ => 0)))) := congrArg (fun z9 => [sO cy hh a kk dd b w ee qq ik, ia cy (hh 1) 7 (fnd C (cLay 3 x2 x3))] ++ (shB cy qq (if cLay 3 x2 x3 = 7 then va_up bi (bstN 3) x2 else bi) z9 (va_up f 3 (fun _ => 0)))) (show (va_up si 3 (if x2 = 0 then 0 else x3)) = (if cLay 3 x2 x3 = 7 then va_up si (bstN 3) (if x2 = 0 then 0 else x3) else si) from by rw [if_pos hcd]; simp only [hb0, hb1, hb2, hb3])
                  replace hP2 := (congrArg (fun z9 => va_P D vwCl z9 _) hq9).mp hP2
                  replace hD2 := (congrArg (fun z9 => va_D _ z9) hq9).mp hD2
                  clear hq9
                  have hq9 : ([sO cy hh a kk dd b w ee qq ik, ia cy (hh 1) 7 (fnd C (cLay 3 x2 x3))] ++ (shB cy qq (if cLay 3 x2 x3 = 7 then va_up bi (bstN 3) x2 else bi) (if cLay 3 x2 x3 = 7 then va_up si (bstN 3) (if x2 = 0 then 0 else x3) else si) (va_up f 3 (fun _ => 0)))) = ([sO cy hh a kk dd b w ee qq ik, ia cy (hh 1) 7 (fnd C (cLay 3 x2 x3))] ++ (shB cy qq (if cLay 3 x2 x3 = 7 then va_up bi (bstN 3) x2 else bi) (if cLay 3 x2 x3 = 7 then va_up si (bstN 3) (if x2 = 0 then 0 else x3) else si) (if cLay 3 x2 x3 = 7 then va_up f (bstN 3) (fun _ => 0) else f))) := congrArg (fun z9 => [sO cy hh a kk dd b w ee qq ik, ia cy (hh 1) 7 (fnd C (cLay 3 x2 x3))] ++ (shB cy qq (if cLay 3 x2 x3 = 7 then va_up bi (bstN 3) x2 else bi) (if cLay 3 x2 x3 = 7 then va_up si (bstN 3) (if x2 = 0 then 0 else x3) else si) z9)) (show (va_up f 3 (fun _ => 0)) = (if cLay 3 x2 x3 = 7 then va_up f (bstN 3) (fun _ => 0) else f) from by rw [if_pos hcd]; simp only [hb0, hb1, hb2, hb3])
                  replace hP2 := (congrArg (fun z9 => va_P D vwCl z9 _) hq9).mp hP2
                  replace hD2 := (congrArg (fun z9 => va_D _ z9) hq9).mp hD2
                  clear hq9
                  refine re_i () hx hb hr hlocks hP2 hD2 hS2 dX6_sheet_87 ?_
                  exact (ans_o hcd (rfl))
            · refine lv_aload_n hx hb dX6_sheet_53 rfl (lv_at hl0 0 rfl) ?_
              refine lv_iconst (v := 0) hx hb dX6_sheet_54 (by decide) ?_
              refine cV_i (wc := [sO cy hh a kk dd b w ee qq ik, ia cy (hh 1) 7 C]) (wr := shB cy qq bi si f) (rest := []) hx hb hml hown hw hG hK hP1 hD1 hS1 hA hl0 kc_X6_find kw_2_59 [.int 0] (c_X6_find l D cy G H1.size hh a kk dd b w ee qq ik C 0 (by first | omega | assumption)) [0, 1] [2, 3, 4, 5, 6, 7, 8, 9, 10] rfl rfl rfl rfl rfl 0 rfl rfl rfl rfl rfl (Nat.le_of_ble_eq_true rfl) ⟨Nat.le_of_ble_eq_true rfl, Nat.le_of_ble_eq_true rfl⟩ dX6_sheet_55 ⟨Nat.le_of_ble_eq_true rfl, Nat.le_of_ble_eq_true rfl⟩ (fun r_55 u9 H2 locs2 hu9 hP2 hD2 hS2 => ?_)
              clear hP1 hD1 hS1 locs1 H1
              have hr_55 := hu9
              replace hP2 : va_P D vwCl (shB cy qq bi si f ++ ([sO cy hh a kk dd b w ee qq ik, ia cy (hh 1) 7 (upd C 0 (C 0 + 1))])) H2 := hP2
              replace hD2 : va_D (va_A _ sz) (shB cy qq bi si f ++ ([sO cy hh a kk dd b w ee qq ik, ia cy (hh 1) 7 (upd C 0 (C 0 + 1))])) := hD2
              replace hP2 := hP2.sub (ws' := [sO cy hh a kk dd b w ee qq ik, ia cy (hh 1) 7 (upd C 0 (C 0 + 1))] ++ (shB cy qq bi si f)) [9, 10, 0, 1, 2, 3, 4, 5, 6, 7, 8] rfl
              replace hD2 := hD2.sub (ws' := [sO cy hh a kk dd b w ee qq ik, ia cy (hh 1) 7 (upd C 0 (C 0 + 1))] ++ (shB cy qq bi si f)) [9, 10, 0, 1, 2, 3, 4, 5, 6, 7, 8] (by decide) rfl
              subst hr_55
              have hcd : cLay x1 x2 x3 = 0 := by unfold cLay; clear hx hb hml hown hr hlocks hw hsz hA hG hK hP2 hD2 hS2 hl0; grind
              have hq9 : ([sO cy hh a kk dd b w ee qq ik, ia cy (hh 1) 7 (upd C 0 (C 0 + 1))] ++ (shB cy qq bi si f)) = ([sO cy hh a kk dd b w ee qq ik, ia cy (hh 1) 7 (fnd C (cLay x1 x2 x3))] ++ (shB cy qq bi si f)) := congrArg (fun z9 => [sO cy hh a kk dd b w ee qq ik, ia cy (hh 1) 7 z9] ++ (shB cy qq bi si f)) (show (upd C 0 (C 0 + 1)) = (fnd C (cLay x1 x2 x3)) from fnd_f hcd (by decide))
              replace hP2 := (congrArg (fun z9 => va_P D vwCl z9 _) hq9).mp hP2
              replace hD2 := (congrArg (fun z9 => va_D _ z9) hq9).mp hD2
              clear hq9
              have hq9 : ([sO cy hh a kk dd b w ee qq ik, ia cy (hh 1) 7 (fnd C (cLay x1 x2 x3))] ++ (shB cy qq bi si f)) = ([sO cy hh a kk dd b w ee qq ik, ia cy (hh 1) 7 (fnd C (cLay x1 x2 x3))] ++ (shB cy qq (if cLay x1 x2 x3 = 7 then va_up bi (bstN x1) x2 else bi) si f)) := congrArg (fun z9 => [sO cy hh a kk dd b w ee qq ik, ia cy (hh 1) 7 (fnd C (cLay x1 x2 x3))] ++ (shB cy qq z9 si f)) (show bi = (if cLay x1 x2 x3 = 7 then va_up bi (bstN x1) x2 else bi) from (if_neg (fun z9 => absurd (hcd.symm.trans z9) (by decide))).symm)
              replace hP2 := (congrArg (fun z9 => va_P D vwCl z9 _) hq9).mp hP2
              replace hD2 := (congrArg (fun z9 => va_D _ z9) hq9).mp hD2
              clear hq9
              have hq9 : ([sO cy hh a kk dd b w ee qq ik, ia cy (hh 1) 7 (fnd C (cLay x1 x2 x3))] ++ (shB cy qq (if cLay x1 x2 x3 = 7 then va_up bi (bstN x1) x2 else bi) si f)) = ([sO cy hh a kk dd b w ee qq ik, ia cy (hh 1) 7 (fnd C (cLay x1 x2 x3))] ++ (shB cy qq (if cLay x1 x2 x3 = 7 then va_up bi (bstN x1) x2 else bi) (if cLay x1 x2 x3 = 7 then va_up si (bstN x1) (if x2 = 0 then 0 else x3) else si) f)) := congrArg (fun z9 => [sO cy hh a kk dd b w ee qq ik, ia cy (hh 1) 7 (fnd C (cLay x1 x2 x3))] ++ (shB cy qq (if cLay x1 x2 x3 = 7 then va_up bi (bstN x1) x2 else bi) z9 f)) (show si = (if cLay x1 x2 x3 = 7 then va_up si (bstN x1) (if x2 = 0 then 0 else x3) else si) from (if_neg (fun z9 => absurd (hcd.symm.trans z9) (by decide))).symm)
              replace hP2 := (congrArg (fun z9 => va_P D vwCl z9 _) hq9).mp hP2
              replace hD2 := (congrArg (fun z9 => va_D _ z9) hq9).mp hD2
              clear hq9
              have hq9 : ([sO cy hh a kk dd b w ee qq ik, ia cy (hh 1) 7 (fnd C (cLay x1 x2 x3))] ++ (shB cy qq (if cLay x1 x2 x3 = 7 then va_up bi (bstN x1) x2 else bi) (if cLay x1 x2 x3 = 7 then va_up si (bstN x1) (if x2 = 0 then 0 else x3) else si) f)) = ([sO cy hh a kk dd b w ee qq ik, ia cy (hh 1) 7 (fnd C (cLay x1 x2 x3))] ++ (shB cy qq (if cLay x1 x2 x3 = 7 then va_up bi (bstN x1) x2 else bi) (if cLay x1 x2 x3 = 7 then va_up si (bstN x1) (if x2 = 0 then 0 else x3) else si) (if cLay x1 x2 x3 = 7 then va_up f (bstN x1) (fun _ => 0) else f))) := congrArg (fun z9 => [sO cy hh a kk dd b w ee qq ik, ia cy (hh 1) 7 (fnd C (cLay x1 x2 x3))] ++ (shB cy qq (if cLay x1 x2 x3 = 7 then va_up bi (bstN x1) x2 else bi) (if cLay x1 x2 x3 = 7 then va_up si (bstN x1) (if x2 = 0 then 0 else x3) else si) z9)) (show f = (if cLay x1 x2 x3 = 7 then va_up f (bstN x1) (fun _ => 0) else f) from (if_neg (fun z9 => absurd (hcd.symm.trans z9) (by decide))).symm)
              replace hP2 := (congrArg (fun z9 => va_P D vwCl z9 _) hq9).mp hP2
              replace hD2 := (congrArg (fun z9 => va_D _ z9) hq9).mp hD2
              clear hq9
              refine re_i () hx hb hr hlocks hP2 hD2 hS2 dX6_sheet_58 ?_
              exact (ans_f hcd (by decide) rfl)
          · refine lv_aload_n hx hb dX6_sheet_40 rfl (lv_at hl0 0 rfl) ?_
            refine lv_bipush (v := 6) hx hb dX6_sheet_41 (by decide) ?_
            refine cV_i (wc := [sO cy hh a kk dd b w ee qq ik, ia cy (hh 1) 7 C]) (wr := shB cy qq bi si f) (rest := []) hx hb hml hown hw hG hK hP1 hD1 hS1 hA hl0 kc_X6_find kw_2_59 [.int 6] (c_X6_find l D cy G H1.size hh a kk dd b w ee qq ik C 6 (by first | omega | assumption)) [0, 1] [2, 3, 4, 5, 6, 7, 8, 9, 10] rfl rfl rfl rfl rfl 0 rfl rfl rfl rfl rfl (Nat.le_of_ble_eq_true rfl) ⟨Nat.le_of_ble_eq_true rfl, Nat.le_of_ble_eq_true rfl⟩ dX6_sheet_43 ⟨Nat.le_of_ble_eq_true rfl, Nat.le_of_ble_eq_true rfl⟩ (fun r_43 u9 H2 locs2 hu9 hP2 hD2 hS2 => ?_)
            clear hP1 hD1 hS1 locs1 H1
            have hr_43 := hu9
            replace hP2 : va_P D vwCl (shB cy qq bi si f ++ ([sO cy hh a kk dd b w ee qq ik, ia cy (hh 1) 7 (upd C 6 (C 6 + 1))])) H2 := hP2
            replace hD2 : va_D (va_A _ sz) (shB cy qq bi si f ++ ([sO cy hh a kk dd b w ee qq ik, ia cy (hh 1) 7 (upd C 6 (C 6 + 1))])) := hD2
            replace hP2 := hP2.sub (ws' := [sO cy hh a kk dd b w ee qq ik, ia cy (hh 1) 7 (upd C 6 (C 6 + 1))] ++ (shB cy qq bi si f)) [9, 10, 0, 1, 2, 3, 4, 5, 6, 7, 8] rfl
            replace hD2 := hD2.sub (ws' := [sO cy hh a kk dd b w ee qq ik, ia cy (hh 1) 7 (upd C 6 (C 6 + 1))] ++ (shB cy qq bi si f)) [9, 10, 0, 1, 2, 3, 4, 5, 6, 7, 8] (by decide) rfl
            subst hr_43
            have hcd : cLay x1 x2 x3 = 6 := by unfold cLay; clear hx hb hml hown hr hlocks hw hsz hA hG hK hP2 hD2 hS2 hl0; grind
            have hq9 : ([sO cy hh a kk dd b w ee qq ik, ia cy (hh 1) 7 (upd C 6 (C 6 + 1))] ++ (shB cy qq bi si f)) = ([sO cy hh a kk dd b w ee qq ik, ia cy (hh 1) 7 (fnd C (cLay x1 x2 x3))] ++ (shB cy qq bi si f)) := congrArg (fun z9 => [sO cy hh a kk dd b w ee qq ik, ia cy (hh 1) 7 z9] ++ (shB cy qq bi si f)) (show (upd C 6 (C 6 + 1)) = (fnd C (cLay x1 x2 x3)) from fnd_f hcd (by decide))
            replace hP2 := (congrArg (fun z9 => va_P D vwCl z9 _) hq9).mp hP2
            replace hD2 := (congrArg (fun z9 => va_D _ z9) hq9).mp hD2
            clear hq9
            have hq9 : ([sO cy hh a kk dd b w ee qq ik, ia cy (hh 1) 7 (fnd C (cLay x1 x2 x3))] ++ (shB cy qq bi si f)) = ([sO cy hh a kk dd b w ee qq ik, ia cy (hh 1) 7 (fnd C (cLay x1 x2 x3))] ++ (shB cy qq (if cLay x1 x2 x3 = 7 then va_up bi (bstN x1) x2 else bi) si f)) := congrArg (fun z9 => [sO cy hh a kk dd b w ee qq ik, ia cy (hh 1) 7 (fnd C (cLay x1 x2 x3))] ++ (shB cy qq z9 si f)) (show bi = (if cLay x1 x2 x3 = 7 then va_up bi (bstN x1) x2 else bi) from (if_neg (fun z9 => absurd (hcd.symm.trans z9) (by decide))).symm)
            replace hP2 := (congrArg (fun z9 => va_P D vwCl z9 _) hq9).mp hP2
            replace hD2 := (congrArg (fun z9 => va_D _ z9) hq9).mp hD2
            clear hq9
            have hq9 : ([sO cy hh a kk dd b w ee qq ik, ia cy (hh 1) 7 (fnd C (cLay x1 x2 x3))] ++ (shB cy qq (if cLay x1 x2 x3 = 7 then va_up bi (bstN x1) x2 else bi) si f)) = ([sO cy hh a kk dd b w ee qq ik, ia cy (hh 1) 7 (fnd C (cLay x1 x2 x3))] ++ (shB cy qq (if cLay x1 x2 x3 = 7 then va_up bi (bstN x1) x2 else bi) (if cLay x1 x2 x3 = 7 then va_up si (bstN x1) (if x2 = 0 then 0 else x3) else si) f)) := congrArg (fun z9 => [sO cy hh a kk dd b w ee qq ik, ia cy (hh 1) 7 (fnd C (cLay x1 x2 x3))] ++ (shB cy qq (if cLay x1 x2 x3 = 7 then va_up bi (bstN x1) x2 else bi) z9 f)) (show si = (if cLay x1 x2 x3 = 7 then va_up si (bstN x1) (if x2 = 0 then 0 else x3) else si) from (if_neg (fun z9 => absurd (hcd.symm.trans z9) (by decide))).symm)
            replace hP2 := (congrArg (fun z9 => va_P D vwCl z9 _) hq9).mp hP2
            replace hD2 := (congrArg (fun z9 => va_D _ z9) hq9).mp hD2
            clear hq9
            have hq9 : ([sO cy hh a kk dd b w ee qq ik, ia cy (hh 1) 7 (fnd C (cLay x1 x2 x3))] ++ (shB cy qq (if cLay x1 x2 x3 = 7 then va_up bi (bstN x1) x2 else bi) (if cLay x1 x2 x3 = 7 then va_up si (bstN x1) (if x2 = 0 then 0 else x3) else si) f)) = ([sO cy hh a kk dd b w ee qq ik, ia cy (hh 1) 7 (fnd C (cLay x1 x2 x3))] ++ (shB cy qq (if cLay x1 x2 x3 = 7 then va_up bi (bstN x1) x2 else bi) (if cLay x1 x2 x3 = 7 then va_up si (bstN x1) (if x2 = 0 then 0 else x3) else si) (if cLay x1 x2 x3 = 7 then va_up f (bstN x1) (fun _ => 0) else f))) := congrArg (fun z9 => [sO cy hh a kk dd b w ee qq ik, ia cy (hh 1) 7 (fnd C (cLay x1 x2 x3))] ++ (shB cy qq (if cLay x1 x2 x3 = 7 then va_up bi (bstN x1) x2 else bi) (if cLay x1 x2 x3 = 7 then va_up si (bstN x1) (if x2 = 0 then 0 else x3) else si) z9)) (show f = (if cLay x1 x2 x3 = 7 then va_up f (bstN x1) (fun _ => 0) else f) from (if_neg (fun z9 => absurd (hcd.symm.trans z9) (by decide))).symm)
            replace hP2 := (congrArg (fun z9 => va_P D vwCl z9 _) hq9).mp hP2
            replace hD2 := (congrArg (fun z9 => va_D _ z9) hq9).mp hD2
            clear hq9
            refine re_i () hx hb hr hlocks hP2 hD2 hS2 dX6_sheet_46 ?_
            exact (ans_f hcd (by decide) rfl)
        · refine lv_iload_n hx hb dX6_sheet_24 rfl (lv_at hl0 2 rfl) ?_
          refine lv_bipush (v := 64) hx hb dX6_sheet_25 (by decide) ?_
          refine lv_icmp_eq (tgt := 36) hx hb dX6_sheet_27 (by decide) (fun c_27 => ?_) (fun c_27 => ?_)
          · refine lv_iload_n hx hb dX6_sheet_36 rfl (lv_at hl0 3 rfl) ?_
            refine lv_if_ge (tgt := 47) hx hb dX6_sheet_37 (by decide) (fun c_37 => ?_) (fun c_37 => ?_)
            · refine lv_iload_n hx hb dX6_sheet_47 rfl (lv_at hl0 3 rfl) ?_
              refine lv_bipush (v := 40) hx hb dX6_sheet_48 (by decide) ?_
              refine lv_icmp_le (tgt := 59) hx hb dX6_sheet_50 (by decide) (fun c_50 => ?_) (fun c_50 => ?_)
              · rcases in3 c_5 with rfl | rfl | rfl | rfl
                · replace hP1 : va_P D vwCl ([sO cy hh a kk dd b w ee qq ik, ia cy (hh 1) 7 C, qsB cy qq, hO cy (qq 1) (qq 5) (bi 0) (si 0), hO cy (qq 2) (qq 6) (bi 1) (si 1), hO cy (qq 3) (qq 7) (bi 2) (si 2), hO cy (qq 4) (qq 8) (bi 3) (si 3), la cy (qq 5) 40 (f 0), la cy (qq 6) 40 (f 1), la cy (qq 7) 40 (f 2), la cy (qq 8) 40 (f 3)]) H1 := hP1
                  replace hD1 : va_D (va_A _ sz) ([sO cy hh a kk dd b w ee qq ik, ia cy (hh 1) 7 C, qsB cy qq, hO cy (qq 1) (qq 5) (bi 0) (si 0), hO cy (qq 2) (qq 6) (bi 1) (si 1), hO cy (qq 3) (qq 7) (bi 2) (si 2), hO cy (qq 4) (qq 8) (bi 3) (si 3), la cy (qq 5) 40 (f 0), la cy (qq 6) 40 (f 1), la cy (qq 7) 40 (f 2), la cy (qq 8) 40 (f 3)]) := hD1
                  refine lv_aload_n hx hb dX6_sheet_59 rfl (lv_at hl0 0 rfl) ?_
                  refine va_get (D := D) (ci := 6) (v := .ref (qq 0)) (C := RX6) (T := TX6) (N := 9) hx hb hw iX6 hown hK hP1 0 rfl rfl 7 (by decide) (hw _ kw_2_34) (fun _ h9 => h9) rfl dX6_sheet_60 ?_
                  refine lv_iload_n hx hb dX6_sheet_63 rfl (lv_at hl0 1 rfl) ?_
                  refine ald_q hx hb hK hP1 2 3 rfl rfl rfl 0 rfl (by first | omega | assumption) (by decide) (rfl) dX6_sheet_64 ?_
                  refine lv_iload_n hx hb dX6_sheet_65 rfl (lv_at hl0 2 rfl) ?_
                  refine lv_iload_n hx hb dX6_sheet_66 rfl (lv_at hl0 2 rfl) ?_
                  refine lv_if_ne (tgt := 74) hx hb dX6_sheet_67 (by decide) (fun c_67 => ?_) (fun c_67 => ?_)
                  · refine lv_iload_n hx hb dX6_sheet_74 rfl (lv_at hl0 3 rfl) ?_
                    refine tp (show (x3) = if x2 = 0 then 0 else x3 from (if_neg c_67).symm) ?_
                    refine cV_v (wc := [hO cy (qq 1) (qq 5) (bi 0) (si 0), la cy (qq 5) 40 (f 0)]) (wr := [sO cy hh a kk dd b w ee qq ik, ia cy (hh 1) 7 C, qsB cy qq, hO cy (qq 2) (qq 6) (bi 1) (si 1), hO cy (qq 3) (qq 7) (bi 2) (si 2), hO cy (qq 4) (qq 8) (bi 3) (si 3), la cy (qq 6) 40 (f 1), la cy (qq 7) 40 (f 2), la cy (qq 8) 40 (f 3)]) (rest := []) hx hb hml hown hw hG hK hP1 hD1 hS1 hA hl0 kc_X2_lay kw_4_0 [.int x2, .int (if x2 = 0 then 0 else x3)] (c_X2_lay l D cy G H1.size (qq 1) (qq 5) (bi 0) (si 0) (f 0) x2 (if x2 = 0 then 0 else x3) ((hso 0 (by decide)).2.2)) [3, 7] [0, 1, 2, 4, 5, 6, 8, 9, 10] rfl rfl rfl rfl rfl 0 rfl rfl rfl rfl rfl (Nat.le_of_ble_eq_true rfl) ⟨Nat.le_of_ble_eq_true rfl, Nat.le_of_ble_eq_true rfl⟩ dX6_sheet_75 ⟨Nat.le_of_ble_eq_true rfl, Nat.le_of_ble_eq_true rfl⟩ (fun u9 H2 locs2 hu9 hP2 hD2 hS2 => ?_)
                    clear hP1 hD1 hS1 locs1 H1
                    replace hP2 : va_P D vwCl ([sO cy hh a kk dd b w ee qq ik, ia cy (hh 1) 7 C, qsB cy qq, hO cy (qq 2) (qq 6) (bi 1) (si 1), hO cy (qq 3) (qq 7) (bi 2) (si 2), hO cy (qq 4) (qq 8) (bi 3) (si 3), la cy (qq 6) 40 (f 1), la cy (qq 7) 40 (f 2), la cy (qq 8) 40 (f 3), hO cy (qq 1) (qq 5) x2 (if x2 = 0 then 0 else x3), la cy (qq 5) 40 (fun _ => 0)]) H2 := hP2
                    replace hD2 : va_D (va_A _ sz) ([sO cy hh a kk dd b w ee qq ik, ia cy (hh 1) 7 C, qsB cy qq, hO cy (qq 2) (qq 6) (bi 1) (si 1), hO cy (qq 3) (qq 7) (bi 2) (si 2), hO cy (qq 4) (qq 8) (bi 3) (si 3), la cy (qq 6) 40 (f 1), la cy (qq 7) 40 (f 2), la cy (qq 8) 40 (f 3), hO cy (qq 1) (qq 5) x2 (if x2 = 0 then 0 else x3), la cy (qq 5) 40 (fun _ => 0)]) := hD2
                    replace hP2 := hP2.sub (ws' := [sO cy hh a kk dd b w ee qq ik, ia cy (hh 1) 7 C, qsB cy qq, hO cy (qq 1) (qq 5) x2 (if x2 = 0 then 0 else x3), hO cy (qq 2) (qq 6) (bi 1) (si 1), hO cy (qq 3) (qq 7) (bi 2) (si 2), hO cy (qq 4) (qq 8) (bi 3) (si 3), la cy (qq 5) 40 (fun _ => 0), la cy (qq 6) 40 (f 1), la cy (qq 7) 40 (f 2), la cy (qq 8) 40 (f 3)]) [0, 1, 2, 9, 3, 4, 5, 10, 6, 7, 8] rfl
                    replace hD2 := hD2.sub (ws' := [sO cy hh a kk dd b w ee qq ik, ia cy (hh 1) 7 C, qsB cy qq, hO cy (qq 1) (qq 5) x2 (if x2 = 0 then 0 else x3), hO cy (qq 2) (qq 6) (bi 1) (si 1), hO cy (qq 3) (qq 7) (bi 2) (si 2), hO cy (qq 4) (qq 8) (bi 3) (si 3), la cy (qq 5) 40 (fun _ => 0), la cy (qq 6) 40 (f 1), la cy (qq 7) 40 (f 2), la cy (qq 8) 40 (f 3)]) [0, 1, 2, 9, 3, 4, 5, 10, 6, 7, 8] (by decide) rfl
                    refine lv_aload_n hx hb dX6_sheet_78 rfl (lv_at hl0 0 rfl) ?_
                    refine va_get (D := D) (ci := 6) (v := .ref (qq 0)) (C := RX6) (T := TX6) (N := 9) hx hb hw iX6 hown hK hP2 0 rfl rfl 7 (by decide) (hw _ kw_2_34) (fun _ h9 => h9) rfl dX6_sheet_79 ?_
                    refine lv_iload_n hx hb dX6_sheet_82 rfl (lv_at hl0 1 rfl) ?_
                    refine ald_q hx hb hK hP2 2 3 rfl rfl rfl 0 rfl (by first | omega | assumption) (by decide) (rfl) dX6_sheet_83 ?_
                    refine va_get (D := D) (ci := 2) (v := .int (if x2 = 0 then 0 else x3)) (C := RX2) (T := TX2) (N := 3) hx hb hw iX2 hown hK hP2 3 rfl rfl 2 (by decide) (hw _ kw_2_18) (fun _ h9 => h9) rfl dX6_sheet_84 ?_
                    replace hP2 : va_P D vwCl ([sO cy hh a kk dd b w ee qq ik, ia cy (hh 1) 7 C] ++ (shB cy qq (va_up bi 0 x2) (va_up si 0 (if x2 = 0 then 0 else x3)) (va_up f 0 (fun _ => 0)))) H2 := hP2
                    replace hD2 : va_D (va_A _ sz) ([sO cy hh a kk dd b w ee qq ik, ia cy (hh 1) 7 C] ++ (shB cy qq (va_up bi 0 x2) (va_up si 0 (if x2 = 0 then 0 else x3)) (va_up f 0 (fun _ => 0)))) := hD2
                    have hcd : cLay 0 x2 x3 = 7 := by unfold cLay; clear hx hb hml hown hr hlocks hw hsz hA hG hK hP2 hD2 hS2 hl0; grind
                    have hq9 : ([sO cy hh a kk dd b w ee qq ik, ia cy (hh 1) 7 C] ++ (shB cy qq (va_up bi 0 x2) (va_up si 0 (if x2 = 0 then 0 else x3)) (va_up f 0 (fun _ => 0)))) = ([sO cy hh a kk dd b w ee qq ik, ia cy (hh 1) 7 (fnd C (cLay 0 x2 x3))] ++ (shB cy qq (va_up bi 0 x2) (va_up si 0 (if x2 = 0 then 0 else x3)) (va_up f 0 (fun _ => 0)))) := congrArg (fun z9 => [sO cy hh a kk dd b w ee qq ik, ia cy (hh 1) 7 z9] ++ (shB cy qq (va_up bi 0 x2) (va_up si 0 (if x2 = 0 then 0 else x3)) (va_up f 0 (fun _ => 0)))) (show C = (fnd C (cLay 0 x2 x3)) from fnd_o hcd)
                    replace hP2 := (congrArg (fun z9 => va_P D vwCl z9 _) hq9).mp hP2
                    replace hD2 := (congrArg (fun z9 => va_D _ z9) hq9).mp hD2
                    clear hq9
                    have hq9 : ([sO cy hh a kk dd b w ee qq ik, ia cy (hh 1) 7 (fnd C (cLay 0 x2 x3))] ++ (shB cy qq (va_up bi 0 x2) (va_up si 0 (if x2 = 0 then 0 else x3)) (va_up f 0 (fun _ => 0)))) = ([sO cy hh a kk dd b w ee qq ik, ia cy (hh 1) 7 (fnd C (cLay 0 x2 x3))] ++ (shB cy qq (if cLay 0 x2 x3 = 7 then va_up bi (bstN 0) x2 else bi) (va_up si 0 (if x2 = 0 then 0 else x3)) (va_up f 0 (fun _ => 0)))) := congrArg (fun z9 => [sO cy hh a kk dd b w ee qq ik, ia cy (hh 1) 7 (fnd C (cLay 0 x2 x3))] ++ (shB cy qq z9 (va_up si 0 (if x2 = 0 then 0 else x3)) (va_up f 0 (fun _ => 0)))) (show (va_up bi 0 x2) = (if cLay 0 x2 x3 = 7 then va_up bi (bstN 0) x2 else bi) from by rw [if_pos hcd]; simp only [hb0, hb1, hb2, hb3])
                    replace hP2 := (congrArg (fun z9 => va_P D vwCl z9 _) hq9).mp hP2
                    replace hD2 := (congrArg (fun z9 => va_D _ z9) hq9).mp hD2
                    clear hq9
                    have hq9 : ([sO cy hh a kk dd b w ee qq ik, ia cy (hh 1) 7 (fnd C (cLay 0 x2 x3))] ++ (shB cy qq (if cLay 0 x2 x3 = 7 then va_up bi (bstN 0) x2 else bi) (va_up si 0 (if x2 = 0 then 0 else x3)) (va_up f 0 (fun _ => 0)))) = ([sO cy hh a kk dd b w ee qq ik, ia cy (hh 1) 7 (fnd C (cLay 0 x2 x3))] ++ (shB cy qq (if cLay 0 x2 x3 = 7 then va_up bi (bstN 0) x2 else bi) (if cLay 0 x2 x3 = 7 then va_up si (bstN 0) (if x2 = 0 then 0 else x3) else si) (va_up f 0 (fun _ => 0)))) := congrArg (fun z9 => [sO cy hh a kk dd b w ee qq ik, ia cy (hh 1) 7 (fnd C (cLay 0 x2 x3))] ++ (shB cy qq (if cLay 0 x2 x3 = 7 then va_up bi (bstN 0) x2 else bi) z9 (va_up f 0 (fun _ => 0)))) (show (va_up si 0 (if x2 = 0 then 0 else x3)) = (if cLay 0 x2 x3 = 7 then va_up si (bstN 0) (if x2 = 0 then 0 else x3) else si) from by rw [if_pos hcd]; simp only [hb0, hb1, hb2, hb3])
                    replace hP2 := (congrArg (fun z9 => va_P D vwCl z9 _) hq9).mp hP2
                    replace hD2 := (congrArg (fun z9 => va_D _ z9) hq9).mp hD2
                    clear hq9
                    have hq9 : ([sO cy hh a kk dd b w ee qq ik, ia cy (hh 1) 7 (fnd C (cLay 0 x2 x3))] ++ (shB cy qq (if cLay 0 x2 x3 = 7 then va_up bi (bstN 0) x2 else bi) (if cLay 0 x2 x3 = 7 then va_up si (bstN 0) (if x2 = 0 then 0 else x3) else si) (va_up f 0 (fun _ => 0)))) = ([sO cy hh a kk dd b w ee qq ik, ia cy (hh 1) 7 (fnd C (cLay 0 x2 x3))] ++ (shB cy qq (if cLay 0 x2 x3 = 7 then va_up bi (bstN 0) x2 else bi) (if cLay 0 x2 x3 = 7 then va_up si (bstN 0) (if x2 = 0 then 0 else x3) else si) (if cLay 0 x2 x3 = 7 then va_up f (bstN 0) (fun _ => 0) else f))) := congrArg (fun z9 => [sO cy hh a kk dd b w ee qq ik, ia cy (hh 1) 7 (fnd C (cLay 0 x2 x3))] ++ (shB cy qq (if cLay 0 x2 x3 = 7 then va_up bi (bstN 0) x2 else bi) (if cLay 0 x2 x3 = 7 then va_up si (bstN 0) (if x2 = 0 then 0 else x3) else si) z9)) (show (va_up f 0 (fun _ => 0)) = (if cLay 0 x2 x3 = 7 then va_up f (bstN 0) (fun _ => 0) else f) from by rw [if_pos hcd]; simp only [hb0, hb1, hb2, hb3])
                    replace hP2 := (congrArg (fun z9 => va_P D vwCl z9 _) hq9).mp hP2
                    replace hD2 := (congrArg (fun z9 => va_D _ z9) hq9).mp hD2
                    clear hq9
                    refine re_i () hx hb hr hlocks hP2 hD2 hS2 dX6_sheet_87 ?_
                    exact (ans_o hcd (rfl))
                  · refine lv_iconst (v := 0) hx hb dX6_sheet_70 (by decide) ?_
                    refine lv_goto (tgt := 75) hx hb dX6_sheet_71 (by decide) ?_
                    refine tp (show (0) = if x2 = 0 then 0 else x3 from (if_pos c_67).symm) ?_
                    refine cV_v (wc := [hO cy (qq 1) (qq 5) (bi 0) (si 0), la cy (qq 5) 40 (f 0)]) (wr := [sO cy hh a kk dd b w ee qq ik, ia cy (hh 1) 7 C, qsB cy qq, hO cy (qq 2) (qq 6) (bi 1) (si 1), hO cy (qq 3) (qq 7) (bi 2) (si 2), hO cy (qq 4) (qq 8) (bi 3) (si 3), la cy (qq 6) 40 (f 1), la cy (qq 7) 40 (f 2), la cy (qq 8) 40 (f 3)]) (rest := []) hx hb hml hown hw hG hK hP1 hD1 hS1 hA hl0 kc_X2_lay kw_4_0 [.int x2, .int (if x2 = 0 then 0 else x3)] (c_X2_lay l D cy G H1.size (qq 1) (qq 5) (bi 0) (si 0) (f 0) x2 (if x2 = 0 then 0 else x3) ((hso 0 (by decide)).2.2)) [3, 7] [0, 1, 2, 4, 5, 6, 8, 9, 10] rfl rfl rfl rfl rfl 0 rfl rfl rfl rfl rfl (Nat.le_of_ble_eq_true rfl) ⟨Nat.le_of_ble_eq_true rfl, Nat.le_of_ble_eq_true rfl⟩ dX6_sheet_75 ⟨Nat.le_of_ble_eq_true rfl, Nat.le_of_ble_eq_true rfl⟩ (fun u9 H2 locs2 hu9 hP2 hD2 hS2 => ?_)
                    clear hP1 hD1 hS1 locs1 H1
                    replace hP2 : va_P D vwCl ([sO cy hh a kk dd b w ee qq ik, ia cy (hh 1) 7 C, qsB cy qq, hO cy (qq 2) (qq 6) (bi 1) (si 1), hO cy (qq 3) (qq 7) (bi 2) (si 2), hO cy (qq 4) (qq 8) (bi 3) (si 3), la cy (qq 6) 40 (f 1), la cy (qq 7) 40 (f 2), la cy (qq 8) 40 (f 3), hO cy (qq 1) (qq 5) x2 (if x2 = 0 then 0 else x3), la cy (qq 5) 40 (fun _ => 0)]) H2 := hP2
                    replace hD2 : va_D (va_A _ sz) ([sO cy hh a kk dd b w ee qq ik, ia cy (hh 1) 7 C, qsB cy qq, hO cy (qq 2) (qq 6) (bi 1) (si 1), hO cy (qq 3) (qq 7) (bi 2) (si 2), hO cy (qq 4) (qq 8) (bi 3) (si 3), la cy (qq 6) 40 (f 1), la cy (qq 7) 40 (f 2), la cy (qq 8) 40 (f 3), hO cy (qq 1) (qq 5) x2 (if x2 = 0 then 0 else x3), la cy (qq 5) 40 (fun _ => 0)]) := hD2
                    replace hP2 := hP2.sub (ws' := [sO cy hh a kk dd b w ee qq ik, ia cy (hh 1) 7 C, qsB cy qq, hO cy (qq 1) (qq 5) x2 (if x2 = 0 then 0 else x3), hO cy (qq 2) (qq 6) (bi 1) (si 1), hO cy (qq 3) (qq 7) (bi 2) (si 2), hO cy (qq 4) (qq 8) (bi 3) (si 3), la cy (qq 5) 40 (fun _ => 0), la cy (qq 6) 40 (f 1), la cy (qq 7) 40 (f 2), la cy (qq 8) 40 (f 3)]) [0, 1, 2, 9, 3, 4, 5, 10, 6, 7, 8] rfl
                    replace hD2 := hD2.sub (ws' := [sO cy hh a kk dd b w ee qq ik, ia cy (hh 1) 7 C, qsB cy qq, hO cy (qq 1) (qq 5) x2 (if x2 = 0 then 0 else x3), hO cy (qq 2) (qq 6) (bi 1) (si 1), hO cy (qq 3) (qq 7) (bi 2) (si 2), hO cy (qq 4) (qq 8) (bi 3) (si 3), la cy (qq 5) 40 (fun _ => 0), la cy (qq 6) 40 (f 1), la cy (qq 7) 40 (f 2), la cy (qq 8) 40 (f 3)]) [0, 1, 2, 9, 3, 4, 5, 10, 6, 7, 8] (by decide) rfl
                    refine lv_aload_n hx hb dX6_sheet_78 rfl (lv_at hl0 0 rfl) ?_
                    refine va_get (D := D) (ci := 6) (v := .ref (qq 0)) (C := RX6) (T := TX6) (N := 9) hx hb hw iX6 hown hK hP2 0 rfl rfl 7 (by decide) (hw _ kw_2_34) (fun _ h9 => h9) rfl dX6_sheet_79 ?_
                    refine lv_iload_n hx hb dX6_sheet_82 rfl (lv_at hl0 1 rfl) ?_
                    refine ald_q hx hb hK hP2 2 3 rfl rfl rfl 0 rfl (by first | omega | assumption) (by decide) (rfl) dX6_sheet_83 ?_
                    refine va_get (D := D) (ci := 2) (v := .int (if x2 = 0 then 0 else x3)) (C := RX2) (T := TX2) (N := 3) hx hb hw iX2 hown hK hP2 3 rfl rfl 2 (by decide) (hw _ kw_2_18) (fun _ h9 => h9) rfl dX6_sheet_84 ?_
                    replace hP2 : va_P D vwCl ([sO cy hh a kk dd b w ee qq ik, ia cy (hh 1) 7 C] ++ (shB cy qq (va_up bi 0 x2) (va_up si 0 (if x2 = 0 then 0 else x3)) (va_up f 0 (fun _ => 0)))) H2 := hP2
                    replace hD2 : va_D (va_A _ sz) ([sO cy hh a kk dd b w ee qq ik, ia cy (hh 1) 7 C] ++ (shB cy qq (va_up bi 0 x2) (va_up si 0 (if x2 = 0 then 0 else x3)) (va_up f 0 (fun _ => 0)))) := hD2
                    have hcd : cLay 0 x2 x3 = 7 := by unfold cLay; clear hx hb hml hown hr hlocks hw hsz hA hG hK hP2 hD2 hS2 hl0; grind
                    have hq9 : ([sO cy hh a kk dd b w ee qq ik, ia cy (hh 1) 7 C] ++ (shB cy qq (va_up bi 0 x2) (va_up si 0 (if x2 = 0 then 0 else x3)) (va_up f 0 (fun _ => 0)))) = ([sO cy hh a kk dd b w ee qq ik, ia cy (hh 1) 7 (fnd C (cLay 0 x2 x3))] ++ (shB cy qq (va_up bi 0 x2) (va_up si 0 (if x2 = 0 then 0 else x3)) (va_up f 0 (fun _ => 0)))) := congrArg (fun z9 => [sO cy hh a kk dd b w ee qq ik, ia cy (hh 1) 7 z9] ++ (shB cy qq (va_up bi 0 x2) (va_up si 0 (if x2 = 0 then 0 else x3)) (va_up f 0 (fun _ => 0)))) (show C = (fnd C (cLay 0 x2 x3)) from fnd_o hcd)
                    replace hP2 := (congrArg (fun z9 => va_P D vwCl z9 _) hq9).mp hP2
                    replace hD2 := (congrArg (fun z9 => va_D _ z9) hq9).mp hD2
                    clear hq9
                    have hq9 : ([sO cy hh a kk dd b w ee qq ik, ia cy (hh 1) 7 (fnd C (cLay 0 x2 x3))] ++ (shB cy qq (va_up bi 0 x2) (va_up si 0 (if x2 = 0 then 0 else x3)) (va_up f 0 (fun _ => 0)))) = ([sO cy hh a kk dd b w ee qq ik, ia cy (hh 1) 7 (fnd C (cLay 0 x2 x3))] ++ (shB cy qq (if cLay 0 x2 x3 = 7 then va_up bi (bstN 0) x2 else bi) (va_up si 0 (if x2 = 0 then 0 else x3)) (va_up f 0 (fun _ => 0)))) := congrArg (fun z9 => [sO cy hh a kk dd b w ee qq ik, ia cy (hh 1) 7 (fnd C (cLay 0 x2 x3))] ++ (shB cy qq z9 (va_up si 0 (if x2 = 0 then 0 else x3)) (va_up f 0 (fun _ => 0)))) (show (va_up bi 0 x2) = (if cLay 0 x2 x3 = 7 then va_up bi (bstN 0) x2 else bi) from by rw [if_pos hcd]; simp only [hb0, hb1, hb2, hb3])
                    replace hP2 := (congrArg (fun z9 => va_P D vwCl z9 _) hq9).mp hP2
                    replace hD2 := (congrArg (fun z9 => va_D _ z9) hq9).mp hD2
                    clear hq9
                    have hq9 : ([sO cy hh a kk dd b w ee qq ik, ia cy (hh 1) 7 (fnd C (cLay 0 x2 x3))] ++ (shB cy qq (if cLay 0 x2 x3 = 7 then va_up bi (bstN 0) x2 else bi) (va_up si 0 (if x2 = 0 then 0 else x3)) (va_up f 0 (fun _ => 0)))) = ([sO cy hh a kk dd b w ee qq ik, ia cy (hh 1) 7 (fnd C (cLay 0 x2 x3))] ++ (shB cy qq (if cLay 0 x2 x3 = 7 then va_up bi (bstN 0) x2 else bi) (if cLay 0 x2 x3 = 7 then va_up si (bstN 0) (if x2 = 0 then 0 else x3) else si) (va_up f 0 (fun _ => 0)))) := congrArg (fun z9 => [sO cy hh a kk dd b w ee qq ik, ia cy (hh 1) 7 (fnd C (cLay 0 x2 x3))] ++ (shB cy qq (if cLay 0 x2 x3 = 7 then va_up bi (bstN 0) x2 else bi) z9 (va_up f 0 (fun _ => 0)))) (show (va_up si 0 (if x2 = 0 then 0 else x3)) = (if cLay 0 x2 x3 = 7 then va_up si (bstN 0) (if x2 = 0 then 0 else x3) else si) from by rw [if_pos hcd]; simp only [hb0, hb1, hb2, hb3])
                    replace hP2 := (congrArg (fun z9 => va_P D vwCl z9 _) hq9).mp hP2
                    replace hD2 := (congrArg (fun z9 => va_D _ z9) hq9).mp hD2
                    clear hq9
                    have hq9 : ([sO cy hh a kk dd b w ee qq ik, ia cy (hh 1) 7 (fnd C (cLay 0 x2 x3))] ++ (shB cy qq (if cLay 0 x2 x3 = 7 then va_up bi (bstN 0) x2 else bi) (if cLay 0 x2 x3 = 7 then va_up si (bstN 0) (if x2 = 0 then 0 else x3) else si) (va_up f 0 (fun _ => 0)))) = ([sO cy hh a kk dd b w ee qq ik, ia cy (hh 1) 7 (fnd C (cLay 0 x2 x3))] ++ (shB cy qq (if cLay 0 x2 x3 = 7 then va_up bi (bstN 0) x2 else bi) (if cLay 0 x2 x3 = 7 then va_up si (bstN 0) (if x2 = 0 then 0 else x3) else si) (if cLay 0 x2 x3 = 7 then va_up f (bstN 0) (fun _ => 0) else f))) := congrArg (fun z9 => [sO cy hh a kk dd b w ee qq ik, ia cy (hh 1) 7 (fnd C (cLay 0 x2 x3))] ++ (shB cy qq (if cLay 0 x2 x3 = 7 then va_up bi (bstN 0) x2 else bi) (if cLay 0 x2 x3 = 7 then va_up si (bstN 0) (if x2 = 0 then 0 else x3) else si) z9)) (show (va_up f 0 (fun _ => 0)) = (if cLay 0 x2 x3 = 7 then va_up f (bstN 0) (fun _ => 0) else f) from by rw [if_pos hcd]; simp only [hb0, hb1, hb2, hb3])
                    replace hP2 := (congrArg (fun z9 => va_P D vwCl z9 _) hq9).mp hP2
                    replace hD2 := (congrArg (fun z9 => va_D _ z9) hq9).mp hD2
                    clear hq9
                    refine re_i () hx hb hr hlocks hP2 hD2 hS2 dX6_sheet_87 ?_
                    exact (ans_o hcd (rfl))
                · replace hP1 : va_P D vwCl ([sO cy hh a kk dd b w ee qq ik, ia cy (hh 1) 7 C, qsB cy qq, hO cy (qq 1) (qq 5) (bi 0) (si 0), hO cy (qq 2) (qq 6) (bi 1) (si 1), hO cy (qq 3) (qq 7) (bi 2) (si 2), hO cy (qq 4) (qq 8) (bi 3) (si 3), la cy (qq 5) 40 (f 0), la cy (qq 6) 40 (f 1), la cy (qq 7) 40 (f 2), la cy (qq 8) 40 (f 3)]) H1 := hP1
                  replace hD1 : va_D (va_A _ sz) ([sO cy hh a kk dd b w ee qq ik, ia cy (hh 1) 7 C, qsB cy qq, hO cy (qq 1) (qq 5) (bi 0) (si 0), hO cy (qq 2) (qq 6) (bi 1) (si 1), hO cy (qq 3) (qq 7) (bi 2) (si 2), hO cy (qq 4) (qq 8) (bi 3) (si 3), la cy (qq 5) 40 (f 0), la cy (qq 6) 40 (f 1), la cy (qq 7) 40 (f 2), la cy (qq 8) 40 (f 3)]) := hD1
                  refine lv_aload_n hx hb dX6_sheet_59 rfl (lv_at hl0 0 rfl) ?_
                  refine va_get (D := D) (ci := 6) (v := .ref (qq 0)) (C := RX6) (T := TX6) (N := 9) hx hb hw iX6 hown hK hP1 0 rfl rfl 7 (by decide) (hw _ kw_2_34) (fun _ h9 => h9) rfl dX6_sheet_60 ?_
                  refine lv_iload_n hx hb dX6_sheet_63 rfl (lv_at hl0 1 rfl) ?_
                  refine ald_q hx hb hK hP1 2 3 rfl rfl rfl 1 rfl (by first | omega | assumption) (by decide) (rfl) dX6_sheet_64 ?_
                  refine lv_iload_n hx hb dX6_sheet_65 rfl (lv_at hl0 2 rfl) ?_
                  refine lv_iload_n hx hb dX6_sheet_66 rfl (lv_at hl0 2 rfl) ?_
                  refine lv_if_ne (tgt := 74) hx hb dX6_sheet_67 (by decide) (fun c_67 => ?_) (fun c_67 => ?_)
                  · refine lv_iload_n hx hb dX6_sheet_74 rfl (lv_at hl0 3 rfl) ?_
                    refine tp (show (x3) = if x2 = 0 then 0 else x3 from (if_neg c_67).symm) ?_
                    refine cV_v (wc := [hO cy (qq 2) (qq 6) (bi 1) (si 1), la cy (qq 6) 40 (f 1)]) (wr := [sO cy hh a kk dd b w ee qq ik, ia cy (hh 1) 7 C, qsB cy qq, hO cy (qq 1) (qq 5) (bi 0) (si 0), hO cy (qq 3) (qq 7) (bi 2) (si 2), hO cy (qq 4) (qq 8) (bi 3) (si 3), la cy (qq 5) 40 (f 0), la cy (qq 7) 40 (f 2), la cy (qq 8) 40 (f 3)]) (rest := []) hx hb hml hown hw hG hK hP1 hD1 hS1 hA hl0 kc_X2_lay kw_4_0 [.int x2, .int (if x2 = 0 then 0 else x3)] (c_X2_lay l D cy G H1.size (qq 2) (qq 6) (bi 1) (si 1) (f 1) x2 (if x2 = 0 then 0 else x3) ((hso 1 (by decide)).2.2)) [4, 8] [0, 1, 2, 3, 5, 6, 7, 9, 10] rfl rfl rfl rfl rfl 0 rfl rfl rfl rfl rfl (Nat.le_of_ble_eq_true rfl) ⟨Nat.le_of_ble_eq_true rfl, Nat.le_of_ble_eq_true rfl⟩ dX6_sheet_75 ⟨Nat.le_of_ble_eq_true rfl, Nat.le_of_ble_eq_true rfl⟩ (fun u9 H2 locs2 hu9 hP2 hD2 hS2 => ?_)
                    clear hP1 hD1 hS1 locs1 H1
                    replace hP2 : va_P D vwCl ([sO cy hh a kk dd b w ee qq ik, ia cy (hh 1) 7 C, qsB cy qq, hO cy (qq 1) (qq 5) (bi 0) (si 0), hO cy (qq 3) (qq 7) (bi 2) (si 2), hO cy (qq 4) (qq 8) (bi 3) (si 3), la cy (qq 5) 40 (f 0), la cy (qq 7) 40 (f 2), la cy (qq 8) 40 (f 3), hO cy (qq 2) (qq 6) x2 (if x2 = 0 then 0 else x3), la cy (qq 6) 40 (fun _ => 0)]) H2 := hP2
                    replace hD2 : va_D (va_A _ sz) ([sO cy hh a kk dd b w ee qq ik, ia cy (hh 1) 7 C, qsB cy qq, hO cy (qq 1) (qq 5) (bi 0) (si 0), hO cy (qq 3) (qq 7) (bi 2) (si 2), hO cy (qq 4) (qq 8) (bi 3) (si 3), la cy (qq 5) 40 (f 0), la cy (qq 7) 40 (f 2), la cy (qq 8) 40 (f 3), hO cy (qq 2) (qq 6) x2 (if x2 = 0 then 0 else x3), la cy (qq 6) 40 (fun _ => 0)]) := hD2
                    replace hP2 := hP2.sub (ws' := [sO cy hh a kk dd b w ee qq ik, ia cy (hh 1) 7 C, qsB cy qq, hO cy (qq 1) (qq 5) (bi 0) (si 0), hO cy (qq 2) (qq 6) x2 (if x2 = 0 then 0 else x3), hO cy (qq 3) (qq 7) (bi 2) (si 2), hO cy (qq 4) (qq 8) (bi 3) (si 3), la cy (qq 5) 40 (f 0), la cy (qq 6) 40 (fun _ => 0), la cy (qq 7) 40 (f 2), la cy (qq 8) 40 (f 3)]) [0, 1, 2, 3, 9, 4, 5, 6, 10, 7, 8] rfl
                    replace hD2 := hD2.sub (ws' := [sO cy hh a kk dd b w ee qq ik, ia cy (hh 1) 7 C, qsB cy qq, hO cy (qq 1) (qq 5) (bi 0) (si 0), hO cy (qq 2) (qq 6) x2 (if x2 = 0 then 0 else x3), hO cy (qq 3) (qq 7) (bi 2) (si 2), hO cy (qq 4) (qq 8) (bi 3) (si 3), la cy (qq 5) 40 (f 0), la cy (qq 6) 40 (fun _ => 0), la cy (qq 7) 40 (f 2), la cy (qq 8) 40 (f 3)]) [0, 1, 2, 3, 9, 4, 5, 6, 10, 7, 8] (by decide) rfl
                    refine lv_aload_n hx hb dX6_sheet_78 rfl (lv_at hl0 0 rfl) ?_
                    refine va_get (D := D) (ci := 6) (v := .ref (qq 0)) (C := RX6) (T := TX6) (N := 9) hx hb hw iX6 hown hK hP2 0 rfl rfl 7 (by decide) (hw _ kw_2_34) (fun _ h9 => h9) rfl dX6_sheet_79 ?_
                    refine lv_iload_n hx hb dX6_sheet_82 rfl (lv_at hl0 1 rfl) ?_
                    refine ald_q hx hb hK hP2 2 3 rfl rfl rfl 1 rfl (by first | omega | assumption) (by decide) (rfl) dX6_sheet_83 ?_
                    refine va_get (D := D) (ci := 2) (v := .int (if x2 = 0 then 0 else x3)) (C := RX2) (T := TX2) (N := 3) hx hb hw iX2 hown hK hP2 4 rfl rfl 2 (by decide) (hw _ kw_2_18) (fun _ h9 => h9) rfl dX6_sheet_84 ?_
                    replace hP2 : va_P D vwCl ([sO cy hh a kk dd b w ee qq ik, ia cy (hh 1) 7 C] ++ (shB cy qq (va_up bi 1 x2) (va_up si 1 (if x2 = 0 then 0 else x3)) (va_up f 1 (fun _ => 0)))) H2 := hP2
                    replace hD2 : va_D (va_A _ sz) ([sO cy hh a kk dd b w ee qq ik, ia cy (hh 1) 7 C] ++ (shB cy qq (va_up bi 1 x2) (va_up si 1 (if x2 = 0 then 0 else x3)) (va_up f 1 (fun _ => 0)))) := hD2
                    have hcd : cLay 1 x2 x3 = 7 := by unfold cLay; clear hx hb hml hown hr hlocks hw hsz hA hG hK hP2 hD2 hS2 hl0; grind
                    have hq9 : ([sO cy hh a kk dd b w ee qq ik, ia cy (hh 1) 7 C] ++ (shB cy qq (va_up bi 1 x2) (va_up si 1 (if x2 = 0 then 0 else x3)) (va_up f 1 (fun _ => 0)))) = ([sO cy hh a kk dd b w ee qq ik, ia cy (hh 1) 7 (fnd C (cLay 1 x2 x3))] ++ (shB cy qq (va_up bi 1 x2) (va_up si 1 (if x2 = 0 then 0 else x3)) (va_up f 1 (fun _ => 0)))) := congrArg (fun z9 => [sO cy hh a kk dd b w ee qq ik, ia cy (hh 1) 7 z9] ++ (shB cy qq (va_up bi 1 x2) (va_up si 1 (if x2 = 0 then 0 else x3)) (va_up f 1 (fun _ => 0)))) (show C = (fnd C (cLay 1 x2 x3)) from fnd_o hcd)
                    replace hP2 := (congrArg (fun z9 => va_P D vwCl z9 _) hq9).mp hP2
                    replace hD2 := (congrArg (fun z9 => va_D _ z9) hq9).mp hD2
                    clear hq9
                    have hq9 : ([sO cy hh a kk dd b w ee qq ik, ia cy (hh 1) 7 (fnd C (cLay 1 x2 x3))] ++ (shB cy qq (va_up bi 1 x2) (va_up si 1 (if x2 = 0 then 0 else x3)) (va_up f 1 (fun _ => 0)))) = ([sO cy hh a kk dd b w ee qq ik, ia cy (hh 1) 7 (fnd C (cLay 1 x2 x3))] ++ (shB cy qq (if cLay 1 x2 x3 = 7 then va_up bi (bstN 1) x2 else bi) (va_up si 1 (if x2 = 0 then 0 else x3)) (va_up f 1 (fun _ => 0)))) := congrArg (fun z9 => [sO cy hh a kk dd b w ee qq ik, ia cy (hh 1) 7 (fnd C (cLay 1 x2 x3))] ++ (shB cy qq z9 (va_up si 1 (if x2 = 0 then 0 else x3)) (va_up f 1 (fun _ => 0)))) (show (va_up bi 1 x2) = (if cLay 1 x2 x3 = 7 then va_up bi (bstN 1) x2 else bi) from by rw [if_pos hcd]; simp only [hb0, hb1, hb2, hb3])
                    replace hP2 := (congrArg (fun z9 => va_P D vwCl z9 _) hq9).mp hP2
                    replace hD2 := (congrArg (fun z9 => va_D _ z9) hq9).mp hD2
                    clear hq9
                    have hq9 : ([sO cy hh a kk dd b w ee qq ik, ia cy (hh 1) 7 (fnd C (cLay 1 x2 x3))] ++ (shB cy qq (if cLay 1 x2 x3 = 7 then va_up bi (bstN 1) x2 else bi) (va_up si 1 (if x2 = 0 then 0 else x3)) (va_up f 1 (fun _ => 0)))) = ([sO cy hh a kk dd b w ee qq ik, ia cy (hh 1) 7 (fnd C (cLay 1 x2 x3))] ++ (shB cy qq (if cLay 1 x2 x3 = 7 then va_up bi (bstN 1) x2 else bi) (if cLay 1 x2 x3 = 7 then va_up si (bstN 1) (if x2 = 0 then 0 else x3) else si) (va_up f 1 (fun _ => 0)))) := congrArg (fun z9 => [sO cy hh a kk dd b w ee qq ik, ia cy (hh 1) 7 (fnd C (cLay 1 x2 x3))] ++ (shB cy qq (if cLay 1 x2 x3 = 7 then va_up bi (bstN 1) x2 else bi) z9 (va_up f 1 (fun _ => 0)))) (show (va_up si 1 (if x2 = 0 then 0 else x3)) = (if cLay 1 x2 x3 = 7 then va_up si (bstN 1) (if x2 = 0 then 0 else x3) else si) from by rw [if_pos hcd]; simp only [hb0, hb1, hb2, hb3])
                    replace hP2 := (congrArg (fun z9 => va_P D vwCl z9 _) hq9).mp hP2
                    replace hD2 := (congrArg (fun z9 => va_D _ z9) hq9).mp hD2
                    clear hq9
                    have hq9 : ([sO cy hh a kk dd b w ee qq ik, ia cy (hh 1) 7 (fnd C (cLay 1 x2 x3))] ++ (shB cy qq (if cLay 1 x2 x3 = 7 then va_up bi (bstN 1) x2 else bi) (if cLay 1 x2 x3 = 7 then va_up si (bstN 1) (if x2 = 0 then 0 else x3) else si) (va_up f 1 (fun _ => 0)))) = ([sO cy hh a kk dd b w ee qq ik, ia cy (hh 1) 7 (fnd C (cLay 1 x2 x3))] ++ (shB cy qq (if cLay 1 x2 x3 = 7 then va_up bi (bstN 1) x2 else bi) (if cLay 1 x2 x3 = 7 then va_up si (bstN 1) (if x2 = 0 then 0 else x3) else si) (if cLay 1 x2 x3 = 7 then va_up f (bstN 1) (fun _ => 0) else f))) := congrArg (fun z9 => [sO cy hh a kk dd b w ee qq ik, ia cy (hh 1) 7 (fnd C (cLay 1 x2 x3))] ++ (shB cy qq (if cLay 1 x2 x3 = 7 then va_up bi (bstN 1) x2 else bi) (if cLay 1 x2 x3 = 7 then va_up si (bstN 1) (if x2 = 0 then 0 else x3) else si) z9)) (show (va_up f 1 (fun _ => 0)) = (if cLay 1 x2 x3 = 7 then va_up f (bstN 1) (fun _ => 0) else f) from by rw [if_pos hcd]; simp only [hb0, hb1, hb2, hb3])
                    replace hP2 := (congrArg (fun z9 => va_P D vwCl z9 _) hq9).mp hP2
                    replace hD2 := (congrArg (fun z9 => va_D _ z9) hq9).mp hD2
                    clear hq9
                    refine re_i () hx hb hr hlocks hP2 hD2 hS2 dX6_sheet_87 ?_
                    exact (ans_o hcd (rfl))
                  · refine lv_iconst (v := 0) hx hb dX6_sheet_70 (by decide) ?_
                    refine lv_goto (tgt := 75) hx hb dX6_sheet_71 (by decide) ?_
                    refine tp (show (0) = if x2 = 0 then 0 else x3 from (if_pos c_67).symm) ?_
                    refine cV_v (wc := [hO cy (qq 2) (qq 6) (bi 1) (si 1), la cy (qq 6) 40 (f 1)]) (wr := [sO cy hh a kk dd b w ee qq ik, ia cy (hh 1) 7 C, qsB cy qq, hO cy (qq 1) (qq 5) (bi 0) (si 0), hO cy (qq 3) (qq 7) (bi 2) (si 2), hO cy (qq 4) (qq 8) (bi 3) (si 3), la cy (qq 5) 40 (f 0), la cy (qq 7) 40 (f 2), la cy (qq 8) 40 (f 3)]) (rest := []) hx hb hml hown hw hG hK hP1 hD1 hS1 hA hl0 kc_X2_lay kw_4_0 [.int x2, .int (if x2 = 0 then 0 else x3)] (c_X2_lay l D cy G H1.size (qq 2) (qq 6) (bi 1) (si 1) (f 1) x2 (if x2 = 0 then 0 else x3) ((hso 1 (by decide)).2.2)) [4, 8] [0, 1, 2, 3, 5, 6, 7, 9, 10] rfl rfl rfl rfl rfl 0 rfl rfl rfl rfl rfl (Nat.le_of_ble_eq_true rfl) ⟨Nat.le_of_ble_eq_true rfl, Nat.le_of_ble_eq_true rfl⟩ dX6_sheet_75 ⟨Nat.le_of_ble_eq_true rfl, Nat.le_of_ble_eq_true rfl⟩ (fun u9 H2 locs2 hu9 hP2 hD2 hS2 => ?_)
                    clear hP1 hD1 hS1 locs1 H1
                    replace hP2 : va_P D vwCl ([sO cy hh a kk dd b w ee qq ik, ia cy (hh 1) 7 C, qsB cy qq, hO cy (qq 1) (qq 5) (bi 0) (si 0), hO cy (qq 3) (qq 7) (bi 2) (si 2), hO cy (qq 4) (qq 8) (bi 3) (si 3), la cy (qq 5) 40 (f 0), la cy (qq 7) 40 (f 2), la cy (qq 8) 40 (f 3), hO cy (qq 2) (qq 6) x2 (if x2 = 0 then 0 else x3), la cy (qq 6) 40 (fun _ => 0)]) H2 := hP2
                    replace hD2 : va_D (va_A _ sz) ([sO cy hh a kk dd b w ee qq ik, ia cy (hh 1) 7 C, qsB cy qq, hO cy (qq 1) (qq 5) (bi 0) (si 0), hO cy (qq 3) (qq 7) (bi 2) (si 2), hO cy (qq 4) (qq 8) (bi 3) (si 3), la cy (qq 5) 40 (f 0), la cy (qq 7) 40 (f 2), la cy (qq 8) 40 (f 3), hO cy (qq 2) (qq 6) x2 (if x2 = 0 then 0 else x3), la cy (qq 6) 40 (fun _ => 0)]) := hD2
                    replace hP2 := hP2.sub (ws' := [sO cy hh a kk dd b w ee qq ik, ia cy (hh 1) 7 C, qsB cy qq, hO cy (qq 1) (qq 5) (bi 0) (si 0), hO cy (qq 2) (qq 6) x2 (if x2 = 0 then 0 else x3), hO cy (qq 3) (qq 7) (bi 2) (si 2), hO cy (qq 4) (qq 8) (bi 3) (si 3), la cy (qq 5) 40 (f 0), la cy (qq 6) 40 (fun _ => 0), la cy (qq 7) 40 (f 2), la cy (qq 8) 40 (f 3)]) [0, 1, 2, 3, 9, 4, 5, 6, 10, 7, 8] rfl
                    replace hD2 := hD2.sub (ws' := [sO cy hh a kk dd b w ee qq ik, ia cy (hh 1) 7 C, qsB cy qq, hO cy (qq 1) (qq 5) (bi 0) (si 0), hO cy (qq 2) (qq 6) x2 (if x2 = 0 then 0 else x3), hO cy (qq 3) (qq 7) (bi 2) (si 2), hO cy (qq 4) (qq 8) (bi 3) (si 3), la cy (qq 5) 40 (f 0), la cy (qq 6) 40 (fun _ => 0), la cy (qq 7) 40 (f 2), la cy (qq 8) 40 (f 3)]) [0, 1, 2, 3, 9, 4, 5, 6, 10, 7, 8] (by decide) rfl
                    refine lv_aload_n hx hb dX6_sheet_78 rfl (lv_at hl0 0 rfl) ?_
                    refine va_get (D := D) (ci := 6) (v := .ref (qq 0)) (C := RX6) (T := TX6) (N := 9) hx hb hw iX6 hown hK hP2 0 rfl rfl 7 (by decide) (hw _ kw_2_34) (fun _ h9 => h9) rfl dX6_sheet_79 ?_
                    refine lv_iload_n hx hb dX6_sheet_82 rfl (lv_at hl0 1 rfl) ?_
                    refine ald_q hx hb hK hP2 2 3 rfl rfl rfl 1 rfl (by first | omega | assumption) (by decide) (rfl) dX6_sheet_83 ?_
                    refine va_get (D := D) (ci := 2) (v := .int (if x2 = 0 then 0 else x3)) (C := RX2) (T := TX2) (N := 3) hx hb hw iX2 hown hK hP2 4 rfl rfl 2 (by decide) (hw _ kw_2_18) (fun _ h9 => h9) rfl dX6_sheet_84 ?_
                    replace hP2 : va_P D vwCl ([sO cy hh a kk dd b w ee qq ik, ia cy (hh 1) 7 C] ++ (shB cy qq (va_up bi 1 x2) (va_up si 1 (if x2 = 0 then 0 else x3)) (va_up f 1 (fun _ => 0)))) H2 := hP2
                    replace hD2 : va_D (va_A _ sz) ([sO cy hh a kk dd b w ee qq ik, ia cy (hh 1) 7 C] ++ (shB cy qq (va_up bi 1 x2) (va_up si 1 (if x2 = 0 then 0 else x3)) (va_up f 1 (fun _ => 0)))) := hD2
                    have hcd : cLay 1 x2 x3 = 7 := by unfold cLay; clear hx hb hml hown hr hlocks hw hsz hA hG hK hP2 hD2 hS2 hl0; grind
                    have hq9 : ([sO cy hh a kk dd b w ee qq ik, ia cy (hh 1) 7 C] ++ (shB cy qq (va_up bi 1 x2) (va_up si 1 (if x2 = 0 then 0 else x3)) (va_up f 1 (fun _ => 0)))) = ([sO cy hh a kk dd b w ee qq ik, ia cy (hh 1) 7 (fnd C (cLay 1 x2 x3))] ++ (shB cy qq (va_up bi 1 x2) (va_up si 1 (if x2 = 0 then 0 else x3)) (va_up f 1 (fun _ => 0)))) := congrArg (fun z9 => [sO cy hh a kk dd b w ee qq ik, ia cy (hh 1) 7 z9] ++ (shB cy qq (va_up bi 1 x2) (va_up si 1 (if x2 = 0 then 0 else x3)) (va_up f 1 (fun _ => 0)))) (show C = (fnd C (cLay 1 x2 x3)) from fnd_o hcd)
                    replace hP2 := (congrArg (fun z9 => va_P D vwCl z9 _) hq9).mp hP2
                    replace hD2 := (congrArg (fun z9 => va_D _ z9) hq9).mp hD2
                    clear hq9
                    have hq9 : ([sO cy hh a kk dd b w ee qq ik, ia cy (hh 1) 7 (fnd C (cLay 1 x2 x3))] ++ (shB cy qq (va_up bi 1 x2) (va_up si 1 (if x2 = 0 then 0 else x3)) (va_up f 1 (fun _ => 0)))) = ([sO cy hh a kk dd b w ee qq ik, ia cy (hh 1) 7 (fnd C (cLay 1 x2 x3))] ++ (shB cy qq (if cLay 1 x2 x3 = 7 then va_up bi (bstN 1) x2 else bi) (va_up si 1 (if x2 = 0 then 0 else x3)) (va_up f 1 (fun _ => 0)))) := congrArg (fun z9 => [sO cy hh a kk dd b w ee qq ik, ia cy (hh 1) 7 (fnd C (cLay 1 x2 x3))] ++ (shB cy qq z9 (va_up si 1 (if x2 = 0 then 0 else x3)) (va_up f 1 (fun _ => 0)))) (show (va_up bi 1 x2) = (if cLay 1 x2 x3 = 7 then va_up bi (bstN 1) x2 else bi) from by rw [if_pos hcd]; simp only [hb0, hb1, hb2, hb3])
                    replace hP2 := (congrArg (fun z9 => va_P D vwCl z9 _) hq9).mp hP2
                    replace hD2 := (congrArg (fun z9 => va_D _ z9) hq9).mp hD2
                    clear hq9
                    have hq9 : ([sO cy hh a kk dd b w ee qq ik, ia cy (hh 1) 7 (fnd C (cLay 1 x2 x3))] ++ (shB cy qq (if cLay 1 x2 x3 = 7 then va_up bi (bstN 1) x2 else bi) (va_up si 1 (if x2 = 0 then 0 else x3)) (va_up f 1 (fun _ => 0)))) = ([sO cy hh a kk dd b w ee qq ik, ia cy (hh 1) 7 (fnd C (cLay 1 x2 x3))] ++ (shB cy qq (if cLay 1 x2 x3 = 7 then va_up bi (bstN 1) x2 else bi) (if cLay 1 x2 x3 = 7 then va_up si (bstN 1) (if x2 = 0 then 0 else x3) else si) (va_up f 1 (fun _ => 0)))) := congrArg (fun z9 => [sO cy hh a kk dd b w ee qq ik, ia cy (hh 1) 7 (fnd C (cLay 1 x2 x3))] ++ (shB cy qq (if cLay 1 x2 x3 = 7 then va_up bi (bstN 1) x2 else bi) z9 (va_up f 1 (fun _ => 0)))) (show (va_up si 1 (if x2 = 0 then 0 else x3)) = (if cLay 1 x2 x3 = 7 then va_up si (bstN 1) (if x2 = 0 then 0 else x3) else si) from by rw [if_pos hcd]; simp only [hb0, hb1, hb2, hb3])
                    replace hP2 := (congrArg (fun z9 => va_P D vwCl z9 _) hq9).mp hP2
                    replace hD2 := (congrArg (fun z9 => va_D _ z9) hq9).mp hD2
                    clear hq9
                    have hq9 : ([sO cy hh a kk dd b w ee qq ik, ia cy (hh 1) 7 (fnd C (cLay 1 x2 x3))] ++ (shB cy qq (if cLay 1 x2 x3 = 7 then va_up bi (bstN 1) x2 else bi) (if cLay 1 x2 x3 = 7 then va_up si (bstN 1) (if x2 = 0 then 0 else x3) else si) (va_up f 1 (fun _ => 0)))) = ([sO cy hh a kk dd b w ee qq ik, ia cy (hh 1) 7 (fnd C (cLay 1 x2 x3))] ++ (shB cy qq (if cLay 1 x2 x3 = 7 then va_up bi (bstN 1) x2 else bi) (if cLay 1 x2 x3 = 7 then va_up si (bstN 1) (if x2 = 0 then 0 else x3) else si) (if cLay 1 x2 x3 = 7 then va_up f (bstN 1) (fun _ => 0) else f))) := congrArg (fun z9 => [sO cy hh a kk dd b w ee qq ik, ia cy (hh 1) 7 (fnd C (cLay 1 x2 x3))] ++ (shB cy qq (if cLay 1 x2 x3 = 7 then va_up bi (bstN 1) x2 else bi) (if cLay 1 x2 x3 = 7 then va_up si (bstN 1) (if x2 = 0 then 0 else x3) else si) z9)) (show (va_up f 1 (fun _ => 0)) = (if cLay 1 x2 x3 = 7 then va_up f (bstN 1) (fun _ => 0) else f) from by rw [if_pos hcd]; simp only [hb0, hb1, hb2, hb3])
                    replace hP2 := (congrArg (fun z9 => va_P D vwCl z9 _) hq9).mp hP2
                    replace hD2 := (congrArg (fun z9 => va_D _ z9) hq9).mp hD2
                    clear hq9
                    refine re_i () hx hb hr hlocks hP2 hD2 hS2 dX6_sheet_87 ?_
                    exact (ans_o hcd (rfl))
                · replace hP1 : va_P D vwCl ([sO cy hh a kk dd b w ee qq ik, ia cy (hh 1) 7 C, qsB cy qq, hO cy (qq 1) (qq 5) (bi 0) (si 0), hO cy (qq 2) (qq 6) (bi 1) (si 1), hO cy (qq 3) (qq 7) (bi 2) (si 2), hO cy (qq 4) (qq 8) (bi 3) (si 3), la cy (qq 5) 40 (f 0), la cy (qq 6) 40 (f 1), la cy (qq 7) 40 (f 2), la cy (qq 8) 40 (f 3)]) H1 := hP1
                  replace hD1 : va_D (va_A _ sz) ([sO cy hh a kk dd b w ee qq ik, ia cy (hh 1) 7 C, qsB cy qq, hO cy (qq 1) (qq 5) (bi 0) (si 0), hO cy (qq 2) (qq 6) (bi 1) (si 1), hO cy (qq 3) (qq 7) (bi 2) (si 2), hO cy (qq 4) (qq 8) (bi 3) (si 3), la cy (qq 5) 40 (f 0), la cy (qq 6) 40 (f 1), la cy (qq 7) 40 (f 2), la cy (qq 8) 40 (f 3)]) := hD1
                  refine lv_aload_n hx hb dX6_sheet_59 rfl (lv_at hl0 0 rfl) ?_
                  refine va_get (D := D) (ci := 6) (v := .ref (qq 0)) (C := RX6) (T := TX6) (N := 9) hx hb hw iX6 hown hK hP1 0 rfl rfl 7 (by decide) (hw _ kw_2_34) (fun _ h9 => h9) rfl dX6_sheet_60 ?_
                  refine lv_iload_n hx hb dX6_sheet_63 rfl (lv_at hl0 1 rfl) ?_
                  refine ald_q hx hb hK hP1 2 3 rfl rfl rfl 2 rfl (by first | omega | assumption) (by decide) (rfl) dX6_sheet_64 ?_
                  refine lv_iload_n hx hb dX6_sheet_65 rfl (lv_at hl0 2 rfl) ?_
                  refine lv_iload_n hx hb dX6_sheet_66 rfl (lv_at hl0 2 rfl) ?_
                  refine lv_if_ne (tgt := 74) hx hb dX6_sheet_67 (by decide) (fun c_67 => ?_) (fun c_67 => ?_)
                  · refine lv_iload_n hx hb dX6_sheet_74 rfl (lv_at hl0 3 rfl) ?_
                    refine tp (show (x3) = if x2 = 0 then 0 else x3 from (if_neg c_67).symm) ?_
                    refine cV_v (wc := [hO cy (qq 3) (qq 7) (bi 2) (si 2), la cy (qq 7) 40 (f 2)]) (wr := [sO cy hh a kk dd b w ee qq ik, ia cy (hh 1) 7 C, qsB cy qq, hO cy (qq 1) (qq 5) (bi 0) (si 0), hO cy (qq 2) (qq 6) (bi 1) (si 1), hO cy (qq 4) (qq 8) (bi 3) (si 3), la cy (qq 5) 40 (f 0), la cy (qq 6) 40 (f 1), la cy (qq 8) 40 (f 3)]) (rest := []) hx hb hml hown hw hG hK hP1 hD1 hS1 hA hl0 kc_X2_lay kw_4_0 [.int x2, .int (if x2 = 0 then 0 else x3)] (c_X2_lay l D cy G H1.size (qq 3) (qq 7) (bi 2) (si 2) (f 2) x2 (if x2 = 0 then 0 else x3) ((hso 2 (by decide)).2.2)) [5, 9] [0, 1, 2, 3, 4, 6, 7, 8, 10] rfl rfl rfl rfl rfl 0 rfl rfl rfl rfl rfl (Nat.le_of_ble_eq_true rfl) ⟨Nat.le_of_ble_eq_true rfl, Nat.le_of_ble_eq_true rfl⟩ dX6_sheet_75 ⟨Nat.le_of_ble_eq_true rfl, Nat.le_of_ble_eq_true rfl⟩ (fun u9 H2 locs2 hu9 hP2 hD2 hS2 => ?_)
                    clear hP1 hD1 hS1 locs1 H1
                    replace hP2 : va_P D vwCl ([sO cy hh a kk dd b w ee qq ik, ia cy (hh 1) 7 C, qsB cy qq, hO cy (qq 1) (qq 5) (bi 0) (si 0), hO cy (qq 2) (qq 6) (bi 1) (si 1), hO cy (qq 4) (qq 8) (bi 3) (si 3), la cy (qq 5) 40 (f 0), la cy (qq 6) 40 (f 1), la cy (qq 8) 40 (f 3), hO cy (qq 3) (qq 7) x2 (if x2 = 0 then 0 else x3), la cy (qq 7) 40 (fun _ => 0)]) H2 := hP2
                    replace hD2 : va_D (va_A _ sz) ([sO cy hh a kk dd b w ee qq ik, ia cy (hh 1) 7 C, qsB cy qq, hO cy (qq 1) (qq 5) (bi 0) (si 0), hO cy (qq 2) (qq 6) (bi 1) (si 1), hO cy (qq 4) (qq 8) (bi 3) (si 3), la cy (qq 5) 40 (f 0), la cy (qq 6) 40 (f 1), la cy (qq 8) 40 (f 3), hO cy (qq 3) (qq 7) x2 (if x2 = 0 then 0 else x3), la cy (qq 7) 40 (fun _ => 0)]) := hD2
                    replace hP2 := hP2.sub (ws' := [sO cy hh a kk dd b w ee qq ik, ia cy (hh 1) 7 C, qsB cy qq, hO cy (qq 1) (qq 5) (bi 0) (si 0), hO cy (qq 2) (qq 6) (bi 1) (si 1), hO cy (qq 3) (qq 7) x2 (if x2 = 0 then 0 else x3), hO cy (qq 4) (qq 8) (bi 3) (si 3), la cy (qq 5) 40 (f 0), la cy (qq 6) 40 (f 1), la cy (qq 7) 40 (fun _ => 0), la cy (qq 8) 40 (f 3)]) [0, 1, 2, 3, 4, 9, 5, 6, 7, 10, 8] rfl
                    replace hD2 := hD2.sub (ws' := [sO cy hh a kk dd b w ee qq ik, ia cy (hh 1) 7 C, qsB cy qq, hO cy (qq 1) (qq 5) (bi 0) (si 0), hO cy (qq 2) (qq 6) (bi 1) (si 1), hO cy (qq 3) (qq 7) x2 (if x2 = 0 then 0 else x3), hO cy (qq 4) (qq 8) (bi 3) (si 3), la cy (qq 5) 40 (f 0), la cy (qq 6) 40 (f 1), la cy (qq 7) 40 (fun _ => 0), la cy (qq 8) 40 (f 3)]) [0, 1, 2, 3, 4, 9, 5, 6, 7, 10, 8] (by decide) rfl
                    refine lv_aload_n hx hb dX6_sheet_78 rfl (lv_at hl0 0 rfl) ?_
                    refine va_get (D := D) (ci := 6) (v := .ref (qq 0)) (C := RX6) (T := TX6) (N := 9) hx hb hw iX6 hown hK hP2 0 rfl rfl 7 (by decide) (hw _ kw_2_34) (fun _ h9 => h9) rfl dX6_sheet_79 ?_
                    refine lv_iload_n hx hb dX6_sheet_82 rfl (lv_at hl0 1 rfl) ?_
                    refine ald_q hx hb hK hP2 2 3 rfl rfl rfl 2 rfl (by first | omega | assumption) (by decide) (rfl) dX6_sheet_83 ?_
                    refine va_get (D := D) (ci := 2) (v := .int (if x2 = 0 then 0 else x3)) (C := RX2) (T := TX2) (N := 3) hx hb hw iX2 hown hK hP2 5 rfl rfl 2 (by decide) (hw _ kw_2_18) (fun _ h9 => h9) rfl dX6_sheet_84 ?_
                    replace hP2 : va_P D vwCl ([sO cy hh a kk dd b w ee qq ik, ia cy (hh 1) 7 C] ++ (shB cy qq (va_up bi 2 x2) (va_up si 2 (if x2 = 0 then 0 else x3)) (va_up f 2 (fun _ => 0)))) H2 := hP2
                    replace hD2 : va_D (va_A _ sz) ([sO cy hh a kk dd b w ee qq ik, ia cy (hh 1) 7 C] ++ (shB cy qq (va_up bi 2 x2) (va_up si 2 (if x2 = 0 then 0 else x3)) (va_up f 2 (fun _ => 0)))) := hD2
                    have hcd : cLay 2 x2 x3 = 7 := by unfold cLay; clear hx hb hml hown hr hlocks hw hsz hA hG hK hP2 hD2 hS2 hl0; grind
                    have hq9 : ([sO cy hh a kk dd b w ee qq ik, ia cy (hh 1) 7 C] ++ (shB cy qq (va_up bi 2 x2) (va_up si 2 (if x2 = 0 then 0 else x3)) (va_up f 2 (fun _ => 0)))) = ([sO cy hh a kk dd b w ee qq ik, ia cy (hh 1) 7 (fnd C (cLay 2 x2 x3))] ++ (shB cy qq (va_up bi 2 x2) (va_up si 2 (if x2 = 0 then 0 else x3)) (va_up f 2 (fun _ => 0)))) := congrArg (fun z9 => [sO cy hh a kk dd b w ee qq ik, ia cy (hh 1) 7 z9] ++ (shB cy qq (va_up bi 2 x2) (va_up si 2 (if x2 = 0 then 0 else x3)) (va_up f 2 (fun _ => 0)))) (show C = (fnd C (cLay 2 x2 x3)) from fnd_o hcd)
                    replace hP2 := (congrArg (fun z9 => va_P D vwCl z9 _) hq9).mp hP2
                    replace hD2 := (congrArg (fun z9 => va_D _ z9) hq9).mp hD2
                    clear hq9
                    have hq9 : ([sO cy hh a kk dd b w ee qq ik, ia cy (hh 1) 7 (fnd C (cLay 2 x2 x3))] ++ (shB cy qq (va_up bi 2 x2) (va_up si 2 (if x2 = 0 then 0 else x3)) (va_up f 2 (fun _ => 0)))) = ([sO cy hh a kk dd b w ee qq ik, ia cy (hh 1) 7 (fnd C (cLay 2 x2 x3))] ++ (shB cy qq (if cLay 2 x2 x3 = 7 then va_up bi (bstN 2) x2 else bi) (va_up si 2 (if x2 = 0 then 0 else x3)) (va_up f 2 (fun _ => 0)))) := congrArg (fun z9 => [sO cy hh a kk dd b w ee qq ik, ia cy (hh 1) 7 (fnd C (cLay 2 x2 x3))] ++ (shB cy qq z9 (va_up si 2 (if x2 = 0 then 0 else x3)) (va_up f 2 (fun _ => 0)))) (show (va_up bi 2 x2) = (if cLay 2 x2 x3 = 7 then va_up bi (bstN 2) x2 else bi) from by rw [if_pos hcd]; simp only [hb0, hb1, hb2, hb3])
                    replace hP2 := (congrArg (fun z9 => va_P D vwCl z9 _) hq9).mp hP2
                    replace hD2 := (congrArg (fun z9 => va_D _ z9) hq9).mp hD2
                    clear hq9
                    have hq9 : ([sO cy hh a kk dd b w ee qq ik, ia cy (hh 1) 7 (fnd C (cLay 2 x2 x3))] ++ (shB cy qq (if cLay 2 x2 x3 = 7 then va_up bi (bstN 2) x2 else bi) (va_up si 2 (if x2 = 0 then 0 else x3)) (va_up f 2 (fun _ => 0)))) = ([sO cy hh a kk dd b w ee qq ik, ia cy (hh 1) 7 (fnd C (cLay 2 x2 x3))] ++ (shB cy qq (if cLay 2 x2 x3 = 7 then va_up bi (bstN 2) x2 else bi) (if cLay 2 x2 x3 = 7 then va_up si (bstN 2) (if x2 = 0 then 0 else x3) else si) (va_up f 2 (fun _ => 0)))) := congrArg (fun z9 => [sO cy hh a kk dd b w ee qq ik, ia cy (hh 1) 7 (fnd C (cLay 2 x2 x3))] ++ (shB cy qq (if cLay 2 x2 x3 = 7 then va_up bi (bstN 2) x2 else bi) z9 (va_up f 2 (fun _ => 0)))) (show (va_up si 2 (if x2 = 0 then 0 else x3)) = (if cLay 2 x2 x3 = 7 then va_up si (bstN 2) (if x2 = 0 then 0 else x3) else si) from by rw [if_pos hcd]; simp only [hb0, hb1, hb2, hb3])
                    replace hP2 := (congrArg (fun z9 => va_P D vwCl z9 _) hq9).mp hP2
                    replace hD2 := (congrArg (fun z9 => va_D _ z9) hq9).mp hD2
                    clear hq9
                    have hq9 : ([sO cy hh a kk dd b w ee qq ik, ia cy (hh 1) 7 (fnd C (cLay 2 x2 x3))] ++ (shB cy qq (if cLay 2 x2 x3 = 7 then va_up bi (bstN 2) x2 else bi) (if cLay 2 x2 x3 = 7 then va_up si (bstN 2) (if x2 = 0 then 0 else x3) else si) (va_up f 2 (fun _ => 0)))) = ([sO cy hh a kk dd b w ee qq ik, ia cy (hh 1) 7 (fnd C (cLay 2 x2 x3))] ++ (shB cy qq (if cLay 2 x2 x3 = 7 then va_up bi (bstN 2) x2 else bi) (if cLay 2 x2 x3 = 7 then va_up si (bstN 2) (if x2 = 0 then 0 else x3) else si) (if cLay 2 x2 x3 = 7 then va_up f (bstN 2) (fun _ => 0) else f))) := congrArg (fun z9 => [sO cy hh a kk dd b w ee qq ik, ia cy (hh 1) 7 (fnd C (cLay 2 x2 x3))] ++ (shB cy qq (if cLay 2 x2 x3 = 7 then va_up bi (bstN 2) x2 else bi) (if cLay 2 x2 x3 = 7 then va_up si (bstN 2) (if x2 = 0 then 0 else x3) else si) z9)) (show (va_up f 2 (fun _ => 0)) = (if cLay 2 x2 x3 = 7 then va_up f (bstN 2) (fun _ => 0) else f) from by rw [if_pos hcd]; simp only [hb0, hb1, hb2, hb3])
                    replace hP2 := (congrArg (fun z9 => va_P D vwCl z9 _) hq9).mp hP2
                    replace hD2 := (congrArg (fun z9 => va_D _ z9) hq9).mp hD2
                    clear hq9
                    refine re_i () hx hb hr hlocks hP2 hD2 hS2 dX6_sheet_87 ?_
                    exact (ans_o hcd (rfl))
                  · refine lv_iconst (v := 0) hx hb dX6_sheet_70 (by decide) ?_
                    refine lv_goto (tgt := 75) hx hb dX6_sheet_71 (by decide) ?_
                    refine tp (show (0) = if x2 = 0 then 0 else x3 from (if_pos c_67).symm) ?_
                    refine cV_v (wc := [hO cy (qq 3) (qq 7) (bi 2) (si 2), la cy (qq 7) 40 (f 2)]) (wr := [sO cy hh a kk dd b w ee qq ik, ia cy (hh 1) 7 C, qsB cy qq, hO cy (qq 1) (qq 5) (bi 0) (si 0), hO cy (qq 2) (qq 6) (bi 1) (si 1), hO cy (qq 4) (qq 8) (bi 3) (si 3), la cy (qq 5) 40 (f 0), la cy (qq 6) 40 (f 1), la cy (qq 8) 40 (f 3)]) (rest := []) hx hb hml hown hw hG hK hP1 hD1 hS1 hA hl0 kc_X2_lay kw_4_0 [.int x2, .int (if x2 = 0 then 0 else x3)] (c_X2_lay l D cy G H1.size (qq 3) (qq 7) (bi 2) (si 2) (f 2) x2 (if x2 = 0 then 0 else x3) ((hso 2 (by decide)).2.2)) [5, 9] [0, 1, 2, 3, 4, 6, 7, 8, 10] rfl rfl rfl rfl rfl 0 rfl rfl rfl rfl rfl (Nat.le_of_ble_eq_true rfl) ⟨Nat.le_of_ble_eq_true rfl, Nat.le_of_ble_eq_true rfl⟩ dX6_sheet_75 ⟨Nat.le_of_ble_eq_true rfl, Nat.le_of_ble_eq_true rfl⟩ (fun u9 H2 locs2 hu9 hP2 hD2 hS2 => ?_)
                    clear hP1 hD1 hS1 locs1 H1
                    replace hP2 : va_P D vwCl ([sO cy hh a kk dd b w ee qq ik, ia cy (hh 1) 7 C, qsB cy qq, hO cy (qq 1) (qq 5) (bi 0) (si 0), hO cy (qq 2) (qq 6) (bi 1) (si 1), hO cy (qq 4) (qq 8) (bi 3) (si 3), la cy (qq 5) 40 (f 0), la cy (qq 6) 40 (f 1), la cy (qq 8) 40 (f 3), hO cy (qq 3) (qq 7) x2 (if x2 = 0 then 0 else x3), la cy (qq 7) 40 (fun _ => 0)]) H2 := hP2
                    replace hD2 : va_D (va_A _ sz) ([sO cy hh a kk dd b w ee qq ik, ia cy (hh 1) 7 C, qsB cy qq, hO cy (qq 1) (qq 5) (bi 0) (si 0), hO cy (qq 2) (qq 6) (bi 1) (si 1), hO cy (qq 4) (qq 8) (bi 3) (si 3), la cy (qq 5) 40 (f 0), la cy (qq 6) 40 (f 1), la cy (qq 8) 40 (f 3), hO cy (qq 3) (qq 7) x2 (if x2 = 0 then 0 else x3), la cy (qq 7) 40 (fun _ => 0)]) := hD2
                    replace hP2 := hP2.sub (ws' := [sO cy hh a kk dd b w ee qq ik, ia cy (hh 1) 7 C, qsB cy qq, hO cy (qq 1) (qq 5) (bi 0) (si 0), hO cy (qq 2) (qq 6) (bi 1) (si 1), hO cy (qq 3) (qq 7) x2 (if x2 = 0 then 0 else x3), hO cy (qq 4) (qq 8) (bi 3) (si 3), la cy (qq 5) 40 (f 0), la cy (qq 6) 40 (f 1), la cy (qq 7) 40 (fun _ => 0), la cy (qq 8) 40 (f 3)]) [0, 1, 2, 3, 4, 9, 5, 6, 7, 10, 8] rfl
                    replace hD2 := hD2.sub (ws' := [sO cy hh a kk dd b w ee qq ik, ia cy (hh 1) 7 C, qsB cy qq, hO cy (qq 1) (qq 5) (bi 0) (si 0), hO cy (qq 2) (qq 6) (bi 1) (si 1), hO cy (qq 3) (qq 7) x2 (if x2 = 0 then 0 else x3), hO cy (qq 4) (qq 8) (bi 3) (si 3), la cy (qq 5) 40 (f 0), la cy (qq 6) 40 (f 1), la cy (qq 7) 40 (fun _ => 0), la cy (qq 8) 40 (f 3)]) [0, 1, 2, 3, 4, 9, 5, 6, 7, 10, 8] (by decide) rfl
                    refine lv_aload_n hx hb dX6_sheet_78 rfl (lv_at hl0 0 rfl) ?_
                    refine va_get (D := D) (ci := 6) (v := .ref (qq 0)) (C := RX6) (T := TX6) (N := 9) hx hb hw iX6 hown hK hP2 0 rfl rfl 7 (by decide) (hw _ kw_2_34) (fun _ h9 => h9) rfl dX6_sheet_79 ?_
                    refine lv_iload_n hx hb dX6_sheet_82 rfl (lv_at hl0 1 rfl) ?_
                    refine ald_q hx hb hK hP2 2 3 rfl rfl rfl 2 rfl (by first | omega | assumption) (by decide) (rfl) dX6_sheet_83 ?_
                    refine va_get (D := D) (ci := 2) (v := .int (if x2 = 0 then 0 else x3)) (C := RX2) (T := TX2) (N := 3) hx hb hw iX2 hown hK hP2 5 rfl rfl 2 (by decide) (hw _ kw_2_18) (fun _ h9 => h9) rfl dX6_sheet_84 ?_
                    replace hP2 : va_P D vwCl ([sO cy hh a kk dd b w ee qq ik, ia cy (hh 1) 7 C] ++ (shB cy qq (va_up bi 2 x2) (va_up si 2 (if x2 = 0 then 0 else x3)) (va_up f 2 (fun _ => 0)))) H2 := hP2
                    replace hD2 : va_D (va_A _ sz) ([sO cy hh a kk dd b w ee qq ik, ia cy (hh 1) 7 C] ++ (shB cy qq (va_up bi 2 x2) (va_up si 2 (if x2 = 0 then 0 else x3)) (va_up f 2 (fun _ => 0)))) := hD2
                    have hcd : cLay 2 x2 x3 = 7 := by unfold cLay; clear hx hb hml hown hr hlocks hw hsz hA hG hK hP2 hD2 hS2 hl0; grind
                    have hq9 : ([sO cy hh a kk dd b w ee qq ik, ia cy (hh 1) 7 C] ++ (shB cy qq (va_up bi 2 x2) (va_up si 2 (if x2 = 0 then 0 else x3)) (va_up f 2 (fun _ => 0)))) = ([sO cy hh a kk dd b w ee qq ik, ia cy (hh 1) 7 (fnd C (cLay 2 x2 x3))] ++ (shB cy qq (va_up bi 2 x2) (va_up si 2 (if x2 = 0 then 0 else x3)) (va_up f 2 (fun _ => 0)))) := congrArg (fun z9 => [sO cy hh a kk dd b w ee qq ik, ia cy (hh 1) 7 z9] ++ (shB cy qq (va_up bi 2 x2) (va_up si 2 (if x2 = 0 then 0 else x3)) (va_up f 2 (fun _ => 0)))) (show C = (fnd C (cLay 2 x2 x3)) from fnd_o hcd)
                    replace hP2 := (congrArg (fun z9 => va_P D vwCl z9 _) hq9).mp hP2
                    replace hD2 := (congrArg (fun z9 => va_D _ z9) hq9).mp hD2
                    clear hq9
                    have hq9 : ([sO cy hh a kk dd b w ee qq ik, ia cy (hh 1) 7 (fnd C (cLay 2 x2 x3))] ++ (shB cy qq (va_up bi 2 x2) (va_up si 2 (if x2 = 0 then 0 else x3)) (va_up f 2 (fun _ => 0)))) = ([sO cy hh a kk dd b w ee qq ik, ia cy (hh 1) 7 (fnd C (cLay 2 x2 x3))] ++ (shB cy qq (if cLay 2 x2 x3 = 7 then va_up bi (bstN 2) x2 else bi) (va_up si 2 (if x2 = 0 then 0 else x3)) (va_up f 2 (fun _ => 0)))) := congrArg (fun z9 => [sO cy hh a kk dd b w ee qq ik, ia cy (hh 1) 7 (fnd C (cLay 2 x2 x3))] ++ (shB cy qq z9 (va_up si 2 (if x2 = 0 then 0 else x3)) (va_up f 2 (fun _ => 0)))) (show (va_up bi 2 x2) = (if cLay 2 x2 x3 = 7 then va_up bi (bstN 2) x2 else bi) from by rw [if_pos hcd]; simp only [hb0, hb1, hb2, hb3])
                    replace hP2 := (congrArg (fun z9 => va_P D vwCl z9 _) hq9).mp hP2
                    replace hD2 := (congrArg (fun z9 => va_D _ z9) hq9).mp hD2
                    clear hq9
                    have hq9 : ([sO cy hh a kk dd b w ee qq ik, ia cy (hh 1) 7 (fnd C (cLay 2 x2 x3))] ++ (shB cy qq (if cLay 2 x2 x3 = 7 then va_up bi (bstN 2) x2 else bi) (va_up si 2 (if x2 = 0 then 0 else x3)) (va_up f 2 (fun _ => 0)))) = ([sO cy hh a kk dd b w ee qq ik, ia cy (hh 1) 7 (fnd C (cLay 2 x2 x3))] ++ (shB cy qq (if cLay 2 x2 x3 = 7 then va_up bi (bstN 2) x2 else bi) (if cLay 2 x2 x3 = 7 then va_up si (bstN 2) (if x2 = 0 then 0 else x3) else si) (va_up f 2 (fun _ => 0)))) := congrArg (fun z9 => [sO cy hh a kk dd b w ee qq ik, ia cy (hh 1) 7 (fnd C (cLay 2 x2 x3))] ++ (shB cy qq (if cLay 2 x2 x3 = 7 then va_up bi (bstN 2) x2 else bi) z9 (va_up f 2 (fun _ => 0)))) (show (va_up si 2 (if x2 = 0 then 0 else x3)) = (if cLay 2 x2 x3 = 7 then va_up si (bstN 2) (if x2 = 0 then 0 else x3) else si) from by rw [if_pos hcd]; simp only [hb0, hb1, hb2, hb3])
                    replace hP2 := (congrArg (fun z9 => va_P D vwCl z9 _) hq9).mp hP2
                    replace hD2 := (congrArg (fun z9 => va_D _ z9) hq9).mp hD2
                    clear hq9
                    have hq9 : ([sO cy hh a kk dd b w ee qq ik, ia cy (hh 1) 7 (fnd C (cLay 2 x2 x3))] ++ (shB cy qq (if cLay 2 x2 x3 = 7 then va_up bi (bstN 2) x2 else bi) (if cLay 2 x2 x3 = 7 then va_up si (bstN 2) (if x2 = 0 then 0 else x3) else si) (va_up f 2 (fun _ => 0)))) = ([sO cy hh a kk dd b w ee qq ik, ia cy (hh 1) 7 (fnd C (cLay 2 x2 x3))] ++ (shB cy qq (if cLay 2 x2 x3 = 7 then va_up bi (bstN 2) x2 else bi) (if cLay 2 x2 x3 = 7 then va_up si (bstN 2) (if x2 = 0 then 0 else x3) else si) (if cLay 2 x2 x3 = 7 then va_up f (bstN 2) (fun _ => 0) else f))) := congrArg (fun z9 => [sO cy hh a kk dd b w ee qq ik, ia cy (hh 1) 7 (fnd C (cLay 2 x2 x3))] ++ (shB cy qq (if cLay 2 x2 x3 = 7 then va_up bi (bstN 2) x2 else bi) (if cLay 2 x2 x3 = 7 then va_up si (bstN 2) (if x2 = 0 then 0 else x3) else si) z9)) (show (va_up f 2 (fun _ => 0)) = (if cLay 2 x2 x3 = 7 then va_up f (bstN 2) (fun _ => 0) else f) from by rw [if_pos hcd]; simp only [hb0, hb1, hb2, hb3])
                    replace hP2 := (congrArg (fun z9 => va_P D vwCl z9 _) hq9).mp hP2
                    replace hD2 := (congrArg (fun z9 => va_D _ z9) hq9).mp hD2
                    clear hq9
                    refine re_i () hx hb hr hlocks hP2 hD2 hS2 dX6_sheet_87 ?_
                    exact (ans_o hcd (rfl))
                · replace hP1 : va_P D vwCl ([sO cy hh a kk dd b w ee qq ik, ia cy (hh 1) 7 C, qsB cy qq, hO cy (qq 1) (qq 5) (bi 0) (si 0), hO cy (qq 2) (qq 6) (bi 1) (si 1), hO cy (qq 3) (qq 7) (bi 2) (si 2), hO cy (qq 4) (qq 8) (bi 3) (si 3), la cy (qq 5) 40 (f 0), la cy (qq 6) 40 (f 1), la cy (qq 7) 40 (f 2), la cy (qq 8) 40 (f 3)]) H1 := hP1
                  replace hD1 : va_D (va_A _ sz) ([sO cy hh a kk dd b w ee qq ik, ia cy (hh 1) 7 C, qsB cy qq, hO cy (qq 1) (qq 5) (bi 0) (si 0), hO cy (qq 2) (qq 6) (bi 1) (si 1), hO cy (qq 3) (qq 7) (bi 2) (si 2), hO cy (qq 4) (qq 8) (bi 3) (si 3), la cy (qq 5) 40 (f 0), la cy (qq 6) 40 (f 1), la cy (qq 7) 40 (f 2), la cy (qq 8) 40 (f 3)]) := hD1
                  refine lv_aload_n hx hb dX6_sheet_59 rfl (lv_at hl0 0 rfl) ?_
                  refine va_get (D := D) (ci := 6) (v := .ref (qq 0)) (C := RX6) (T := TX6) (N := 9) hx hb hw iX6 hown hK hP1 0 rfl rfl 7 (by decide) (hw _ kw_2_34) (fun _ h9 => h9) rfl dX6_sheet_60 ?_
                  refine lv_iload_n hx hb dX6_sheet_63 rfl (lv_at hl0 1 rfl) ?_
                  refine ald_q hx hb hK hP1 2 3 rfl rfl rfl 3 rfl (by first | omega | assumption) (by decide) (rfl) dX6_sheet_64 ?_
                  refine lv_iload_n hx hb dX6_sheet_65 rfl (lv_at hl0 2 rfl) ?_
                  refine lv_iload_n hx hb dX6_sheet_66 rfl (lv_at hl0 2 rfl) ?_
                  refine lv_if_ne (tgt := 74) hx hb dX6_sheet_67 (by decide) (fun c_67 => ?_) (fun c_67 => ?_)
                  · refine lv_iload_n hx hb dX6_sheet_74 rfl (lv_at hl0 3 rfl) ?_
                    refine tp (show (x3) = if x2 = 0 then 0 else x3 from (if_neg c_67).symm) ?_
                    refine cV_v (wc := [hO cy (qq 4) (qq 8) (bi 3) (si 3), la cy (qq 8) 40 (f 3)]) (wr := [sO cy hh a kk dd b w ee qq ik, ia cy (hh 1) 7 C, qsB cy qq, hO cy (qq 1) (qq 5) (bi 0) (si 0), hO cy (qq 2) (qq 6) (bi 1) (si 1), hO cy (qq 3) (qq 7) (bi 2) (si 2), la cy (qq 5) 40 (f 0), la cy (qq 6) 40 (f 1), la cy (qq 7) 40 (f 2)]) (rest := []) hx hb hml hown hw hG hK hP1 hD1 hS1 hA hl0 kc_X2_lay kw_4_0 [.int x2, .int (if x2 = 0 then 0 else x3)] (c_X2_lay l D cy G H1.size (qq 4) (qq 8) (bi 3) (si 3) (f 3) x2 (if x2 = 0 then 0 else x3) ((hso 3 (by decide)).2.2)) [6, 10] [0, 1, 2, 3, 4, 5, 7, 8, 9] rfl rfl rfl rfl rfl 0 rfl rfl rfl rfl rfl (Nat.le_of_ble_eq_true rfl) ⟨Nat.le_of_ble_eq_true rfl, Nat.le_of_ble_eq_true rfl⟩ dX6_sheet_75 ⟨Nat.le_of_ble_eq_true rfl, Nat.le_of_ble_eq_true rfl⟩ (fun u9 H2 locs2 hu9 hP2 hD2 hS2 => ?_)
                    clear hP1 hD1 hS1 locs1 H1
                    replace hP2 : va_P D vwCl ([sO cy hh a kk dd b w ee qq ik, ia cy (hh 1) 7 C, qsB cy qq, hO cy (qq 1) (qq 5) (bi 0) (si 0), hO cy (qq 2) (qq 6) (bi 1) (si 1), hO cy (qq 3) (qq 7) (bi 2) (si 2), la cy (qq 5) 40 (f 0), la cy (qq 6) 40 (f 1), la cy (qq 7) 40 (f 2), hO cy (qq 4) (qq 8) x2 (if x2 = 0 then 0 else x3), la cy (qq 8) 40 (fun _ => 0)]) H2 := hP2
                    replace hD2 : va_D (va_A _ sz) ([sO cy hh a kk dd b w ee qq ik, ia cy (hh 1) 7 C, qsB cy qq, hO cy (qq 1) (qq 5) (bi 0) (si 0), hO cy (qq 2) (qq 6) (bi 1) (si 1), hO cy (qq 3) (qq 7) (bi 2) (si 2), la cy (qq 5) 40 (f 0), la cy (qq 6) 40 (f 1), la cy (qq 7) 40 (f 2), hO cy (qq 4) (qq 8) x2 (if x2 = 0 then 0 else x3), la cy (qq 8) 40 (fun _ => 0)]) := hD2
                    replace hP2 := hP2.sub (ws' := [sO cy hh a kk dd b w ee qq ik, ia cy (hh 1) 7 C, qsB cy qq, hO cy (qq 1) (qq 5) (bi 0) (si 0), hO cy (qq 2) (qq 6) (bi 1) (si 1), hO cy (qq 3) (qq 7) (bi 2) (si 2), hO cy (qq 4) (qq 8) x2 (if x2 = 0 then 0 else x3), la cy (qq 5) 40 (f 0), la cy (qq 6) 40 (f 1), la cy (qq 7) 40 (f 2), la cy (qq 8) 40 (fun _ => 0)]) [0, 1, 2, 3, 4, 5, 9, 6, 7, 8, 10] rfl
                    replace hD2 := hD2.sub (ws' := [sO cy hh a kk dd b w ee qq ik, ia cy (hh 1) 7 C, qsB cy qq, hO cy (qq 1) (qq 5) (bi 0) (si 0), hO cy (qq 2) (qq 6) (bi 1) (si 1), hO cy (qq 3) (qq 7) (bi 2) (si 2), hO cy (qq 4) (qq 8) x2 (if x2 = 0 then 0 else x3), la cy (qq 5) 40 (f 0), la cy (qq 6) 40 (f 1), la cy (qq 7) 40 (f 2), la cy (qq 8) 40 (fun _ => 0)]) [0, 1, 2, 3, 4, 5, 9, 6, 7, 8, 10] (by decide) rfl
                    refine lv_aload_n hx hb dX6_sheet_78 rfl (lv_at hl0 0 rfl) ?_
                    refine va_get (D := D) (ci := 6) (v := .ref (qq 0)) (C := RX6) (T := TX6) (N := 9) hx hb hw iX6 hown hK hP2 0 rfl rfl 7 (by decide) (hw _ kw_2_34) (fun _ h9 => h9) rfl dX6_sheet_79 ?_
                    refine lv_iload_n hx hb dX6_sheet_82 rfl (lv_at hl0 1 rfl) ?_
                    refine ald_q hx hb hK hP2 2 3 rfl rfl rfl 3 rfl (by first | omega | assumption) (by decide) (rfl) dX6_sheet_83 ?_
                    refine va_get (D := D) (ci := 2) (v := .int (if x2 = 0 then 0 else x3)) (C := RX2) (T := TX2) (N := 3) hx hb hw iX2 hown hK hP2 6 rfl rfl 2 (by decide) (hw _ kw_2_18) (fun _ h9 => h9) rfl dX6_sheet_84 ?_
                    replace hP2 : va_P D vwCl ([sO cy hh a kk dd b w ee qq ik, ia cy (hh 1) 7 C] ++ (shB cy qq (va_up bi 3 x2) (va_up si 3 (if x2 = 0 then 0 else x3)) (va_up f 3 (fun _ => 0)))) H2 := hP2
                    replace hD2 : va_D (va_A _ sz) ([sO cy hh a kk dd b w ee qq ik, ia cy (hh 1) 7 C] ++ (shB cy qq (va_up bi 3 x2) (va_up si 3 (if x2 = 0 then 0 else x3)) (va_up f 3 (fun _ => 0)))) := hD2
                    have hcd : cLay 3 x2 x3 = 7 := by unfold cLay; clear hx hb hml hown hr hlocks hw hsz hA hG hK hP2 hD2 hS2 hl0; grind
                    have hq9 : ([sO cy hh a kk dd b w ee qq ik, ia cy (hh 1) 7 C] ++ (shB cy qq (va_up bi 3 x2) (va_up si 3 (if x2 = 0 then 0 else x3)) (va_up f 3 (fun _ => 0)))) = ([sO cy hh a kk dd b w ee qq ik, ia cy (hh 1) 7 (fnd C (cLay 3 x2 x3))] ++ (shB cy qq (va_up bi 3 x2) (va_up si 3 (if x2 = 0 then 0 else x3)) (va_up f 3 (fun _ => 0)))) := congrArg (fun z9 => [sO cy hh a kk dd b w ee qq ik, ia cy (hh 1) 7 z9] ++ (shB cy qq (va_up bi 3 x2) (va_up si 3 (if x2 = 0 then 0 else x3)) (va_up f 3 (fun _ => 0)))) (show C = (fnd C (cLay 3 x2 x3)) from fnd_o hcd)
                    replace hP2 := (congrArg (fun z9 => va_P D vwCl z9 _) hq9).mp hP2
                    replace hD2 := (congrArg (fun z9 => va_D _ z9) hq9).mp hD2
                    clear hq9
                    have hq9 : ([sO cy hh a kk dd b w ee qq ik, ia cy (hh 1) 7 (fnd C (cLay 3 x2 x3))] ++ (shB cy qq (va_up bi 3 x2) (va_up si 3 (if x2 = 0 then 0 else x3)) (va_up f 3 (fun _ => 0)))) = ([sO cy hh a kk dd b w ee qq ik, ia cy (hh 1) 7 (fnd C (cLay 3 x2 x3))] ++ (shB cy qq (if cLay 3 x2 x3 = 7 then va_up bi (bstN 3) x2 else bi) (va_up si 3 (if x2 = 0 then 0 else x3)) (va_up f 3 (fun _ => 0)))) := congrArg (fun z9 => [sO cy hh a kk dd b w ee qq ik, ia cy (hh 1) 7 (fnd C (cLay 3 x2 x3))] ++ (shB cy qq z9 (va_up si 3 (if x2 = 0 then 0 else x3)) (va_up f 3 (fun _ => 0)))) (show (va_up bi 3 x2) = (if cLay 3 x2 x3 = 7 then va_up bi (bstN 3) x2 else bi) from by rw [if_pos hcd]; simp only [hb0, hb1, hb2, hb3])
                    replace hP2 := (congrArg (fun z9 => va_P D vwCl z9 _) hq9).mp hP2
                    replace hD2 := (congrArg (fun z9 => va_D _ z9) hq9).mp hD2
                    clear hq9
                    have hq9 : ([sO cy hh a kk dd b w ee qq ik, ia cy (hh 1) 7 (fnd C (cLay 3 x2 x3))] ++ (shB cy qq (if cLay 3 x2 x3 = 7 then va_up bi (bstN 3) x2 else bi) (va_up si 3 (if x2 = 0 then 0 else x3)) (va_up f 3 (fun _ => 0)))) = ([sO cy hh a kk dd b w ee qq ik, ia cy (hh 1) 7 (fnd C (cLay 3 x2 x3))] ++ (shB cy qq (if cLay 3 x2 x3 = 7 then va_up bi (bstN 3) x2 else bi) (if cLay 3 x2 x3 = 7 then va_up si (bstN 3) (if x2 = 0 then 0 else x3) else si) (va_up f 3 (fun _ => 0)))) := congrArg (fun z9 => [sO cy hh a kk dd b w ee qq ik, ia cy (hh 1) 7 (fnd C (cLay 3 x2 x3))] ++ (shB cy qq (if cLay 3 x2 x3 = 7 then va_up bi (bstN 3) x2 else bi) z9 (va_up f 3 (fun _ => 0)))) (show (va_up si 3 (if x2 = 0 then 0 else x3)) = (if cLay 3 x2 x3 = 7 then va_up si (bstN 3) (if x2 = 0 then 0 else x3) else si) from by rw [if_pos hcd]; simp only [hb0, hb1, hb2, hb3])
                    replace hP2 := (congrArg (fun z9 => va_P D vwCl z9 _) hq9).mp hP2
                    replace hD2 := (congrArg (fun z9 => va_D _ z9) hq9).mp hD2
                    clear hq9
                    have hq9 : ([sO cy hh a kk dd b w ee qq ik, ia cy (hh 1) 7 (fnd C (cLay 3 x2 x3))] ++ (shB cy qq (if cLay 3 x2 x3 = 7 then va_up bi (bstN 3) x2 else bi) (if cLay 3 x2 x3 = 7 then va_up si (bstN 3) (if x2 = 0 then 0 else x3) else si) (va_up f 3 (fun _ => 0)))) = ([sO cy hh a kk dd b w ee qq ik, ia cy (hh 1) 7 (fnd C (cLay 3 x2 x3))] ++ (shB cy qq (if cLay 3 x2 x3 = 7 then va_up bi (bstN 3) x2 else bi) (if cLay 3 x2 x3 = 7 then va_up si (bstN 3) (if x2 = 0 then 0 else x3) else si) (if cLay 3 x2 x3 = 7 then va_up f (bstN 3) (fun _ => 0) else f))) := congrArg (fun z9 => [sO cy hh a kk dd b w ee qq ik, ia cy (hh 1) 7 (fnd C (cLay 3 x2 x3))] ++ (shB cy qq (if cLay 3 x2 x3 = 7 then va_up bi (bstN 3) x2 else bi) (if cLay 3 x2 x3 = 7 then va_up si (bstN 3) (if x2 = 0 then 0 else x3) else si) z9)) (show (va_up f 3 (fun _ => 0)) = (if cLay 3 x2 x3 = 7 then va_up f (bstN 3) (fun _ => 0) else f) from by rw [if_pos hcd]; simp only [hb0, hb1, hb2, hb3])
                    replace hP2 := (congrArg (fun z9 => va_P D vwCl z9 _) hq9).mp hP2
                    replace hD2 := (congrArg (fun z9 => va_D _ z9) hq9).mp hD2
                    clear hq9
                    refine re_i () hx hb hr hlocks hP2 hD2 hS2 dX6_sheet_87 ?_
                    exact (ans_o hcd (rfl))
                  · refine lv_iconst (v := 0) hx hb dX6_sheet_70 (by decide) ?_
                    refine lv_goto (tgt := 75) hx hb dX6_sheet_71 (by decide) ?_
                    refine tp (show (0) = if x2 = 0 then 0 else x3 from (if_pos c_67).symm) ?_
                    refine cV_v (wc := [hO cy (qq 4) (qq 8) (bi 3) (si 3), la cy (qq 8) 40 (f 3)]) (wr := [sO cy hh a kk dd b w ee qq ik, ia cy (hh 1) 7 C, qsB cy qq, hO cy (qq 1) (qq 5) (bi 0) (si 0), hO cy (qq 2) (qq 6) (bi 1) (si 1), hO cy (qq 3) (qq 7) (bi 2) (si 2), la cy (qq 5) 40 (f 0), la cy (qq 6) 40 (f 1), la cy (qq 7) 40 (f 2)]) (rest := []) hx hb hml hown hw hG hK hP1 hD1 hS1 hA hl0 kc_X2_lay kw_4_0 [.int x2, .int (if x2 = 0 then 0 else x3)] (c_X2_lay l D cy G H1.size (qq 4) (qq 8) (bi 3) (si 3) (f 3) x2 (if x2 = 0 then 0 else x3) ((hso 3 (by decide)).2.2)) [6, 10] [0, 1, 2, 3, 4, 5, 7, 8, 9] rfl rfl rfl rfl rfl 0 rfl rfl rfl rfl rfl (Nat.le_of_ble_eq_true rfl) ⟨Nat.le_of_ble_eq_true rfl, Nat.le_of_ble_eq_true rfl⟩ dX6_sheet_75 ⟨Nat.le_of_ble_eq_true rfl, Nat.le_of_ble_eq_true rfl⟩ (fun u9 H2 locs2 hu9 hP2 hD2 hS2 => ?_)
                    clear hP1 hD1 hS1 locs1 H1
                    replace hP2 : va_P D vwCl ([sO cy hh a kk dd b w ee qq ik, ia cy (hh 1) 7 C, qsB cy qq, hO cy (qq 1) (qq 5) (bi 0) (si 0), hO cy (qq 2) (qq 6) (bi 1) (si 1), hO cy (qq 3) (qq 7) (bi 2) (si 2), la cy (qq 5) 40 (f 0), la cy (qq 6) 40 (f 1), la cy (qq 7) 40 (f 2), hO cy (qq 4) (qq 8) x2 (if x2 = 0 then 0 else x3), la cy (qq 8) 40 (fun _ => 0)]) H2 := hP2
                    replace hD2 : va_D (va_A _ sz) ([sO cy hh a kk dd b w ee qq ik, ia cy (hh 1) 7 C, qsB cy qq, hO cy (qq 1) (qq 5) (bi 0) (si 0), hO cy (qq 2) (qq 6) (bi 1) (si 1), hO cy (qq 3) (qq 7) (bi 2) (si 2), la cy (qq 5) 40 (f 0), la cy (qq 6) 40 (f 1), la cy (qq 7) 40 (f 2), hO cy (qq 4) (qq 8) x2 (if x2 = 0 then 0 else x3), la cy (qq 8) 40 (fun _ => 0)]) := hD2
                    replace hP2 := hP2.sub (ws' := [sO cy hh a kk dd b w ee qq ik, ia cy (hh 1) 7 C, qsB cy qq, hO cy (qq 1) (qq 5) (bi 0) (si 0), hO cy (qq 2) (qq 6) (bi 1) (si 1), hO cy (qq 3) (qq 7) (bi 2) (si 2), hO cy (qq 4) (qq 8) x2 (if x2 = 0 then 0 else x3), la cy (qq 5) 40 (f 0), la cy (qq 6) 40 (f 1), la cy (qq 7) 40 (f 2), la cy (qq 8) 40 (fun _ => 0)]) [0, 1, 2, 3, 4, 5, 9, 6, 7, 8, 10] rfl
                    replace hD2 := hD2.sub (ws' := [sO cy hh a kk dd b w ee qq ik, ia cy (hh 1) 7 C, qsB cy qq, hO cy (qq 1) (qq 5) (bi 0) (si 0), hO cy (qq 2) (qq 6) (bi 1) (si 1), hO cy (qq 3) (qq 7) (bi 2) (si 2), hO cy (qq 4) (qq 8) x2 (if x2 = 0 then 0 else x3), la cy (qq 5) 40 (f 0), la cy (qq 6) 40 (f 1), la cy (qq 7) 40 (f 2), la cy (qq 8) 40 (fun _ => 0)]) [0, 1, 2, 3, 4, 5, 9, 6, 7, 8, 10] (by decide) rfl
                    refine lv_aload_n hx hb dX6_sheet_78 rfl (lv_at hl0 0 rfl) ?_
                    refine va_get (D := D) (ci := 6) (v := .ref (qq 0)) (C := RX6) (T := TX6) (N := 9) hx hb hw iX6 hown hK hP2 0 rfl rfl 7 (by decide) (hw _ kw_2_34) (fun _ h9 => h9) rfl dX6_sheet_79 ?_
                    refine lv_iload_n hx hb dX6_sheet_82 rfl (lv_at hl0 1 rfl) ?_
                    refine ald_q hx hb hK hP2 2 3 rfl rfl rfl 3 rfl (by first | omega | assumption) (by decide) (rfl) dX6_sheet_83 ?_
                    refine va_get (D := D) (ci := 2) (v := .int (if x2 = 0 then 0 else x3)) (C := RX2) (T := TX2) (N := 3) hx hb hw iX2 hown hK hP2 6 rfl rfl 2 (by decide) (hw _ kw_2_18) (fun _ h9 => h9) rfl dX6_sheet_84 ?_
                    replace hP2 : va_P D vwCl ([sO cy hh a kk dd b w ee qq ik, ia cy (hh 1) 7 C] ++ (shB cy qq (va_up bi 3 x2) (va_up si 3 (if x2 = 0 then 0 else x3)) (va_up f 3 (fun _ => 0)))) H2 := hP2
                    replace hD2 : va_D (va_A _ sz) ([sO cy hh a kk dd b w ee qq ik, ia cy (hh 1) 7 C] ++ (shB cy qq (va_up bi 3 x2) (va_up si 3 (if x2 = 0 then 0 else x3)) (va_up f 3 (fun _ => 0)))) := hD2
                    have hcd : cLay 3 x2 x3 = 7 := by unfold cLay; clear hx hb hml hown hr hlocks hw hsz hA hG hK hP2 hD2 hS2 hl0; grind
                    have hq9 : ([sO cy hh a kk dd b w ee qq ik, ia cy (hh 1) 7 C] ++ (shB cy qq (va_up bi 3 x2) (va_up si 3 (if x2 = 0 then 0 else x3)) (va_up f 3 (fun _ => 0)))) = ([sO cy hh a kk dd b w ee qq ik, ia cy (hh 1) 7 (fnd C (cLay 3 x2 x3))] ++ (shB cy qq (va_up bi 3 x2) (va_up si 3 (if x2 = 0 then 0 else x3)) (va_up f 3 (fun _ => 0)))) := congrArg (fun z9 => [sO cy hh a kk dd b w ee qq ik, ia cy (hh 1) 7 z9] ++ (shB cy qq (va_up bi 3 x2) (va_up si 3 (if x2 = 0 then 0 else x3)) (va_up f 3 (fun _ => 0)))) (show C = (fnd C (cLay 3 x2 x3)) from fnd_o hcd)
                    replace hP2 := (congrArg (fun z9 => va_P D vwCl z9 _) hq9).mp hP2
                    replace hD2 := (congrArg (fun z9 => va_D _ z9) hq9).mp hD2
                    clear hq9
                    have hq9 : ([sO cy hh a kk dd b w ee qq ik, ia cy (hh 1) 7 (fnd C (cLay 3 x2 x3))] ++ (shB cy qq (va_up bi 3 x2) (va_up si 3 (if x2 = 0 then 0 else x3)) (va_up f 3 (fun _ => 0)))) = ([sO cy hh a kk dd b w ee qq ik, ia cy (hh 1) 7 (fnd C (cLay 3 x2 x3))] ++ (shB cy qq (if cLay 3 x2 x3 = 7 then va_up bi (bstN 3) x2 else bi) (va_up si 3 (if x2 = 0 then 0 else x3)) (va_up f 3 (fun _ => 0)))) := congrArg (fun z9 => [sO cy hh a kk dd b w ee qq ik, ia cy (hh 1) 7 (fnd C (cLay 3 x2 x3))] ++ (shB cy qq z9 (va_up si 3 (if x2 = 0 then 0 else x3)) (va_up f 3 (fun _ => 0)))) (show (va_up bi 3 x2) = (if cLay 3 x2 x3 = 7 then va_up bi (bstN 3) x2 else bi) from by rw [if_pos hcd]; simp only [hb0, hb1, hb2, hb3])
                    replace hP2 := (congrArg (fun z9 => va_P D vwCl z9 _) hq9).mp hP2
                    replace hD2 := (congrArg (fun z9 => va_D _ z9) hq9).mp hD2
                    clear hq9
                    have hq9 : ([sO cy hh a kk dd b w ee qq ik, ia cy (hh 1) 7 (fnd C (cLay 3 x2 x3))] ++ (shB cy qq (if cLay 3 x2 x3 = 7 then va_up bi (bstN 3) x2 else bi) (va_up si 3 (if x2 = 0 then 0 else x3)) (va_up f 3 (fun _ => 0)))) = ([sO cy hh a kk dd b w ee qq ik, ia cy (hh 1) 7 (fnd C (cLay 3 x2 x3))] ++ (shB cy qq (if cLay 3 x2 x3 = 7 then va_up bi (bstN 3) x2 else bi) (if cLay 3 x2 x3 = 7 then va_up si (bstN 3) (if x2 = 0 then 0 else x3) else si) (va_up f 3 (fun _ => 0)))) := congrArg (fun z9 => [sO cy hh a kk dd b w ee qq ik, ia cy (hh 1) 7 (fnd C (cLay 3 x2 x3))] ++ (shB cy qq (if cLay 3 x2 x3 = 7 then va_up bi (bstN 3) x2 else bi) z9 (va_up f 3 (fun _ => 0)))) (show (va_up si 3 (if x2 = 0 then 0 else x3)) = (if cLay 3 x2 x3 = 7 then va_up si (bstN 3) (if x2 = 0 then 0 else x3) else si) from by rw [if_pos hcd]; simp only [hb0, hb1, hb2, hb3])
                    replace hP2 := (congrArg (fun z9 => va_P D vwCl z9 _) hq9).mp hP2
                    replace hD2 := (congrArg (fun z9 => va_D _ z9) hq9).mp hD2
                    clear hq9
                    have hq9 : ([sO cy hh a kk dd b w ee qq ik, ia cy (hh 1) 7 (fnd C (cLay 3 x2 x3))] ++ (shB cy qq (if cLay 3 x2 x3 = 7 then va_up bi (bstN 3) x2 else bi) (if cLay 3 x2 x3 = 7 then va_up si (bstN 3) (if x2 = 0 then 0 else x3) else si) (va_up f 3 (fun _ => 0)))) = ([sO cy hh a kk dd b w ee qq ik, ia cy (hh 1) 7 (fnd C (cLay 3 x2 x3))] ++ (shB cy qq (if cLay 3 x2 x3 = 7 then va_up bi (bstN 3) x2 else bi) (if cLay 3 x2 x3 = 7 then va_up si (bstN 3) (if x2 = 0 then 0 else x3) else si) (if cLay 3 x2 x3 = 7 then va_up f (bstN 3) (fun _ => 0) else f))) := congrArg (fun z9 => [sO cy hh a kk dd b w ee qq ik, ia cy (hh 1) 7 (fnd C (cLay 3 x2 x3))] ++ (shB cy qq (if cLay 3 x2 x3 = 7 then va_up bi (bstN 3) x2 else bi) (if cLay 3 x2 x3 = 7 then va_up si (bstN 3) (if x2 = 0 then 0 else x3) else si) z9)) (show (va_up f 3 (fun _ => 0)) = (if cLay 3 x2 x3 = 7 then va_up f (bstN 3) (fun _ => 0) else f) from by rw [if_pos hcd]; simp only [hb0, hb1, hb2, hb3])
                    replace hP2 := (congrArg (fun z9 => va_P D vwCl z9 _) hq9).mp hP2
                    replace hD2 := (congrArg (fun z9 => va_D _ z9) hq9).mp hD2
                    clear hq9
                    refine re_i () hx hb hr hlocks hP2 hD2 hS2 dX6_sheet_87 ?_
                    exact (ans_o hcd (rfl))
              · refine lv_aload_n hx hb dX6_sheet_53 rfl (lv_at hl0 0 rfl) ?_
                refine lv_iconst (v := 0) hx hb dX6_sheet_54 (by decide) ?_
                refine cV_i (wc := [sO cy hh a kk dd b w ee qq ik, ia cy (hh 1) 7 C]) (wr := shB cy qq bi si f) (rest := []) hx hb hml hown hw hG hK hP1 hD1 hS1 hA hl0 kc_X6_find kw_2_59 [.int 0] (c_X6_find l D cy G H1.size hh a kk dd b w ee qq ik C 0 (by first | omega | assumption)) [0, 1] [2, 3, 4, 5, 6, 7, 8, 9, 10] rfl rfl rfl rfl rfl 0 rfl rfl rfl rfl rfl (Nat.le_of_ble_eq_true rfl) ⟨Nat.le_of_ble_eq_true rfl, Nat.le_of_ble_eq_true rfl⟩ dX6_sheet_55 ⟨Nat.le_of_ble_eq_true rfl, Nat.le_of_ble_eq_true rfl⟩ (fun r_55 u9 H2 locs2 hu9 hP2 hD2 hS2 => ?_)
                clear hP1 hD1 hS1 locs1 H1
                have hr_55 := hu9
                replace hP2 : va_P D vwCl (shB cy qq bi si f ++ ([sO cy hh a kk dd b w ee qq ik, ia cy (hh 1) 7 (upd C 0 (C 0 + 1))])) H2 := hP2
                replace hD2 : va_D (va_A _ sz) (shB cy qq bi si f ++ ([sO cy hh a kk dd b w ee qq ik, ia cy (hh 1) 7 (upd C 0 (C 0 + 1))])) := hD2
                replace hP2 := hP2.sub (ws' := [sO cy hh a kk dd b w ee qq ik, ia cy (hh 1) 7 (upd C 0 (C 0 + 1))] ++ (shB cy qq bi si f)) [9, 10, 0, 1, 2, 3, 4, 5, 6, 7, 8] rfl
                replace hD2 := hD2.sub (ws' := [sO cy hh a kk dd b w ee qq ik, ia cy (hh 1) 7 (upd C 0 (C 0 + 1))] ++ (shB cy qq bi si f)) [9, 10, 0, 1, 2, 3, 4, 5, 6, 7, 8] (by decide) rfl
                subst hr_55
                have hcd : cLay x1 x2 x3 = 0 := by unfold cLay; clear hx hb hml hown hr hlocks hw hsz hA hG hK hP2 hD2 hS2 hl0; grind
                have hq9 : ([sO cy hh a kk dd b w ee qq ik, ia cy (hh 1) 7 (upd C 0 (C 0 + 1))] ++ (shB cy qq bi si f)) = ([sO cy hh a kk dd b w ee qq ik, ia cy (hh 1) 7 (fnd C (cLay x1 x2 x3))] ++ (shB cy qq bi si f)) := congrArg (fun z9 => [sO cy hh a kk dd b w ee qq ik, ia cy (hh 1) 7 z9] ++ (shB cy qq bi si f)) (show (upd C 0 (C 0 + 1)) = (fnd C (cLay x1 x2 x3)) from fnd_f hcd (by decide))
                replace hP2 := (congrArg (fun z9 => va_P D vwCl z9 _) hq9).mp hP2
                replace hD2 := (congrArg (fun z9 => va_D _ z9) hq9).mp hD2
                clear hq9
                have hq9 : ([sO cy hh a kk dd b w ee qq ik, ia cy (hh 1) 7 (fnd C (cLay x1 x2 x3))] ++ (shB cy qq bi si f)) = ([sO cy hh a kk dd b w ee qq ik, ia cy (hh 1) 7 (fnd C (cLay x1 x2 x3))] ++ (shB cy qq (if cLay x1 x2 x3 = 7 then va_up bi (bstN x1) x2 else bi) si f)) := congrArg (fun z9 => [sO cy hh a kk dd b w ee qq ik, ia cy (hh 1) 7 (fnd C (cLay x1 x2 x3))] ++ (shB cy qq z9 si f)) (show bi = (if cLay x1 x2 x3 = 7 then va_up bi (bstN x1) x2 else bi) from (if_neg (fun z9 => absurd (hcd.symm.trans z9) (by decide))).symm)
                replace hP2 := (congrArg (fun z9 => va_P D vwCl z9 _) hq9).mp hP2
                replace hD2 := (congrArg (fun z9 => va_D _ z9) hq9).mp hD2
                clear hq9
                have hq9 : ([sO cy hh a kk dd b w ee qq ik, ia cy (hh 1) 7 (fnd C (cLay x1 x2 x3))] ++ (shB cy qq (if cLay x1 x2 x3 = 7 then va_up bi (bstN x1) x2 else bi) si f)) = ([sO cy hh a kk dd b w ee qq ik, ia cy (hh 1) 7 (fnd C (cLay x1 x2 x3))] ++ (shB cy qq (if cLay x1 x2 x3 = 7 then va_up bi (bstN x1) x2 else bi) (if cLay x1 x2 x3 = 7 then va_up si (bstN x1) (if x2 = 0 then 0 else x3) else si) f)) := congrArg (fun z9 => [sO cy hh a kk dd b w ee qq ik, ia cy (hh 1) 7 (fnd C (cLay x1 x2 x3))] ++ (shB cy qq (if cLay x1 x2 x3 = 7 then va_up bi (bstN x1) x2 else bi) z9 f)) (show si = (if cLay x1 x2 x3 = 7 then va_up si (bstN x1) (if x2 = 0 then 0 else x3) else si) from (if_neg (fun z9 => absurd (hcd.symm.trans z9) (by decide))).symm)
                replace hP2 := (congrArg (fun z9 => va_P D vwCl z9 _) hq9).mp hP2
                replace hD2 := (congrArg (fun z9 => va_D _ z9) hq9).mp hD2
                clear hq9
                have hq9 : ([sO cy hh a kk dd b w ee qq ik, ia cy (hh 1) 7 (fnd C (cLay x1 x2 x3))] ++ (shB cy qq (if cLay x1 x2 x3 = 7 then va_up bi (bstN x1) x2 else bi) (if cLay x1 x2 x3 = 7 then va_up si (bstN x1) (if x2 = 0 then 0 else x3) else si) f)) = ([sO cy hh a kk dd b w ee qq ik, ia cy (hh 1) 7 (fnd C (cLay x1 x2 x3))] ++ (shB cy qq (if cLay x1 x2 x3 = 7 then va_up bi (bstN x1) x2 else bi) (if cLay x1 x2 x3 = 7 then va_up si (bstN x1) (if x2 = 0 then 0 else x3) else si) (if cLay x1 x2 x3 = 7 then va_up f (bstN x1) (fun _ => 0) else f))) := congrArg (fun z9 => [sO cy hh a kk dd b w ee qq ik, ia cy (hh 1) 7 (fnd C (cLay x1 x2 x3))] ++ (shB cy qq (if cLay x1 x2 x3 = 7 then va_up bi (bstN x1) x2 else bi) (if cLay x1 x2 x3 = 7 then va_up si (bstN x1) (if x2 = 0 then 0 else x3) else si) z9)) (show f = (if cLay x1 x2 x3 = 7 then va_up f (bstN x1) (fun _ => 0) else f) from (if_neg (fun z9 => absurd (hcd.symm.trans z9) (by decide))).symm)
                replace hP2 := (congrArg (fun z9 => va_P D vwCl z9 _) hq9).mp hP2
                replace hD2 := (congrArg (fun z9 => va_D _ z9) hq9).mp hD2
                clear hq9
                refine re_i () hx hb hr hlocks hP2 hD2 hS2 dX6_sheet_58 ?_
                exact (ans_f hcd (by decide) rfl)
            · refine lv_aload_n hx hb dX6_sheet_40 rfl (lv_at hl0 0 rfl) ?_
              refine lv_bipush (v := 6) hx hb dX6_sheet_41 (by decide) ?_
              refine cV_i (wc := [sO cy hh a kk dd b w ee qq ik, ia cy (hh 1) 7 C]) (wr := shB cy qq bi si f) (rest := []) hx hb hml hown hw hG hK hP1 hD1 hS1 hA hl0 kc_X6_find kw_2_59 [.int 6] (c_X6_find l D cy G H1.size hh a kk dd b w ee qq ik C 6 (by first | omega | assumption)) [0, 1] [2, 3, 4, 5, 6, 7, 8, 9, 10] rfl rfl rfl rfl rfl 0 rfl rfl rfl rfl rfl (Nat.le_of_ble_eq_true rfl) ⟨Nat.le_of_ble_eq_true rfl, Nat.le_of_ble_eq_true rfl⟩ dX6_sheet_43 ⟨Nat.le_of_ble_eq_true rfl, Nat.le_of_ble_eq_true rfl⟩ (fun r_43 u9 H2 locs2 hu9 hP2 hD2 hS2 => ?_)
              clear hP1 hD1 hS1 locs1 H1
              have hr_43 := hu9
              replace hP2 : va_P D vwCl (shB cy qq bi si f ++ ([sO cy hh a kk dd b w ee qq ik, ia cy (hh 1) 7 (upd C 6 (C 6 + 1))])) H2 := hP2
              replace hD2 : va_D (va_A _ sz) (shB cy qq bi si f ++ ([sO cy hh a kk dd b w ee qq ik, ia cy (hh 1) 7 (upd C 6 (C 6 + 1))])) := hD2
              replace hP2 := hP2.sub (ws' := [sO cy hh a kk dd b w ee qq ik, ia cy (hh 1) 7 (upd C 6 (C 6 + 1))] ++ (shB cy qq bi si f)) [9, 10, 0, 1, 2, 3, 4, 5, 6, 7, 8] rfl
              replace hD2 := hD2.sub (ws' := [sO cy hh a kk dd b w ee qq ik, ia cy (hh 1) 7 (upd C 6 (C 6 + 1))] ++ (shB cy qq bi si f)) [9, 10, 0, 1, 2, 3, 4, 5, 6, 7, 8] (by decide) rfl
              subst hr_43
              have hcd : cLay x1 x2 x3 = 6 := by unfold cLay; clear hx hb hml hown hr hlocks hw hsz hA hG hK hP2 hD2 hS2 hl0; grind
              have hq9 : ([sO cy hh a kk dd b w ee qq ik, ia cy (hh 1) 7 (upd C 6 (C 6 + 1))] ++ (shB cy qq bi si f)) = ([sO cy hh a kk dd b w ee qq ik, ia cy (hh 1) 7 (fnd C (cLay x1 x2 x3))] ++ (shB cy qq bi si f)) := congrArg (fun z9 => [sO cy hh a kk dd b w ee qq ik, ia cy (hh 1) 7 z9] ++ (shB cy qq bi si f)) (show (upd C 6 (C 6 + 1)) = (fnd C (cLay x1 x2 x3)) from fnd_f hcd (by decide))
              replace hP2 := (congrArg (fun z9 => va_P D vwCl z9 _) hq9).mp hP2
              replace hD2 := (congrArg (fun z9 => va_D _ z9) hq9).mp hD2
              clear hq9
              have hq9 : ([sO cy hh a kk dd b w ee qq ik, ia cy (hh 1) 7 (fnd C (cLay x1 x2 x3))] ++ (shB cy qq bi si f)) = ([sO cy hh a kk dd b w ee qq ik, ia cy (hh 1) 7 (fnd C (cLay x1 x2 x3))] ++ (shB cy qq (if cLay x1 x2 x3 = 7 then va_up bi (bstN x1) x2 else bi) si f)) := congrArg (fun z9 => [sO cy hh a kk dd b w ee qq ik, ia cy (hh 1) 7 (fnd C (cLay x1 x2 x3))] ++ (shB cy qq z9 si f)) (show bi = (if cLay x1 x2 x3 = 7 then va_up bi (bstN x1) x2 else bi) from (if_neg (fun z9 => absurd (hcd.symm.trans z9) (by decide))).symm)
              replace hP2 := (congrArg (fun z9 => va_P D vwCl z9 _) hq9).mp hP2
              replace hD2 := (congrArg (fun z9 => va_D _ z9) hq9).mp hD2
              clear hq9
              have hq9 : ([sO cy hh a kk dd b w ee qq ik, ia cy (hh 1) 7 (fnd C (cLay x1 x2 x3))] ++ (shB cy qq (if cLay x1 x2 x3 = 7 then va_up bi (bstN x1) x2 else bi) si f)) = ([sO cy hh a kk dd b w ee qq ik, ia cy (hh 1) 7 (fnd C (cLay x1 x2 x3))] ++ (shB cy qq (if cLay x1 x2 x3 = 7 then va_up bi (bstN x1) x2 else bi) (if cLay x1 x2 x3 = 7 then va_up si (bstN x1) (if x2 = 0 then 0 else x3) else si) f)) := congrArg (fun z9 => [sO cy hh a kk dd b w ee qq ik, ia cy (hh 1) 7 (fnd C (cLay x1 x2 x3))] ++ (shB cy qq (if cLay x1 x2 x3 = 7 then va_up bi (bstN x1) x2 else bi) z9 f)) (show si = (if cLay x1 x2 x3 = 7 then va_up si (bstN x1) (if x2 = 0 then 0 else x3) else si) from (if_neg (fun z9 => absurd (hcd.symm.trans z9) (by decide))).symm)
              replace hP2 := (congrArg (fun z9 => va_P D vwCl z9 _) hq9).mp hP2
              replace hD2 := (congrArg (fun z9 => va_D _ z9) hq9).mp hD2
              clear hq9
              have hq9 : ([sO cy hh a kk dd b w ee qq ik, ia cy (hh 1) 7 (fnd C (cLay x1 x2 x3))] ++ (shB cy qq (if cLay x1 x2 x3 = 7 then va_up bi (bstN x1) x2 else bi) (if cLay x1 x2 x3 = 7 then va_up si (bstN x1) (if x2 = 0 then 0 else x3) else si) f)) = ([sO cy hh a kk dd b w ee qq ik, ia cy (hh 1) 7 (fnd C (cLay x1 x2 x3))] ++ (shB cy qq (if cLay x1 x2 x3 = 7 then va_up bi (bstN x1) x2 else bi) (if cLay x1 x2 x3 = 7 then va_up si (bstN x1) (if x2 = 0 then 0 else x3) else si) (if cLay x1 x2 x3 = 7 then va_up f (bstN x1) (fun _ => 0) else f))) := congrArg (fun z9 => [sO cy hh a kk dd b w ee qq ik, ia cy (hh 1) 7 (fnd C (cLay x1 x2 x3))] ++ (shB cy qq (if cLay x1 x2 x3 = 7 then va_up bi (bstN x1) x2 else bi) (if cLay x1 x2 x3 = 7 then va_up si (bstN x1) (if x2 = 0 then 0 else x3) else si) z9)) (show f = (if cLay x1 x2 x3 = 7 then va_up f (bstN x1) (fun _ => 0) else f) from (if_neg (fun z9 => absurd (hcd.symm.trans z9) (by decide))).symm)
              replace hP2 := (congrArg (fun z9 => va_P D vwCl z9 _) hq9).mp hP2
              replace hD2 := (congrArg (fun z9 => va_D _ z9) hq9).mp hD2
              clear hq9
              refine re_i () hx hb hr hlocks hP2 hD2 hS2 dX6_sheet_46 ?_
              exact (ans_f hcd (by decide) rfl)
          · refine lv_aload_n hx hb dX6_sheet_30 rfl (lv_at hl0 0 rfl) ?_
            refine lv_iconst (v := 0) hx hb dX6_sheet_31 (by decide) ?_
            refine cV_i (wc := [sO cy hh a kk dd b w ee qq ik, ia cy (hh 1) 7 C]) (wr := shB cy qq bi si f) (rest := []) hx hb hml hown hw hG hK hP1 hD1 hS1 hA hl0 kc_X6_find kw_2_59 [.int 0] (c_X6_find l D cy G H1.size hh a kk dd b w ee qq ik C 0 (by first | omega | assumption)) [0, 1] [2, 3, 4, 5, 6, 7, 8, 9, 10] rfl rfl rfl rfl rfl 0 rfl rfl rfl rfl rfl (Nat.le_of_ble_eq_true rfl) ⟨Nat.le_of_ble_eq_true rfl, Nat.le_of_ble_eq_true rfl⟩ dX6_sheet_32 ⟨Nat.le_of_ble_eq_true rfl, Nat.le_of_ble_eq_true rfl⟩ (fun r_32 u9 H2 locs2 hu9 hP2 hD2 hS2 => ?_)
            clear hP1 hD1 hS1 locs1 H1
            have hr_32 := hu9
            replace hP2 : va_P D vwCl (shB cy qq bi si f ++ ([sO cy hh a kk dd b w ee qq ik, ia cy (hh 1) 7 (upd C 0 (C 0 + 1))])) H2 := hP2
            replace hD2 : va_D (va_A _ sz) (shB cy qq bi si f ++ ([sO cy hh a kk dd b w ee qq ik, ia cy (hh 1) 7 (upd C 0 (C 0 + 1))])) := hD2
            replace hP2 := hP2.sub (ws' := [sO cy hh a kk dd b w ee qq ik, ia cy (hh 1) 7 (upd C 0 (C 0 + 1))] ++ (shB cy qq bi si f)) [9, 10, 0, 1, 2, 3, 4, 5, 6, 7, 8] rfl
            replace hD2 := hD2.sub (ws' := [sO cy hh a kk dd b w ee qq ik, ia cy (hh 1) 7 (upd C 0 (C 0 + 1))] ++ (shB cy qq bi si f)) [9, 10, 0, 1, 2, 3, 4, 5, 6, 7, 8] (by decide) rfl
            subst hr_32
            have hcd : cLay x1 x2 x3 = 0 := by unfold cLay; clear hx hb hml hown hr hlocks hw hsz hA hG hK hP2 hD2 hS2 hl0; grind
            have hq9 : ([sO cy hh a kk dd b w ee qq ik, ia cy (hh 1) 7 (upd C 0 (C 0 + 1))] ++ (shB cy qq bi si f)) = ([sO cy hh a kk dd b w ee qq ik, ia cy (hh 1) 7 (fnd C (cLay x1 x2 x3))] ++ (shB cy qq bi si f)) := congrArg (fun z9 => [sO cy hh a kk dd b w ee qq ik, ia cy (hh 1) 7 z9] ++ (shB cy qq bi si f)) (show (upd C 0 (C 0 + 1)) = (fnd C (cLay x1 x2 x3)) from fnd_f hcd (by decide))
            replace hP2 := (congrArg (fun z9 => va_P D vwCl z9 _) hq9).mp hP2
            replace hD2 := (congrArg (fun z9 => va_D _ z9) hq9).mp hD2
            clear hq9
            have hq9 : ([sO cy hh a kk dd b w ee qq ik, ia cy (hh 1) 7 (fnd C (cLay x1 x2 x3))] ++ (shB cy qq bi si f)) = ([sO cy hh a kk dd b w ee qq ik, ia cy (hh 1) 7 (fnd C (cLay x1 x2 x3))] ++ (shB cy qq (if cLay x1 x2 x3 = 7 then va_up bi (bstN x1) x2 else bi) si f)) := congrArg (fun z9 => [sO cy hh a kk dd b w ee qq ik, ia cy (hh 1) 7 (fnd C (cLay x1 x2 x3))] ++ (shB cy qq z9 si f)) (show bi = (if cLay x1 x2 x3 = 7 then va_up bi (bstN x1) x2 else bi) from (if_neg (fun z9 => absurd (hcd.symm.trans z9) (by decide))).symm)
            replace hP2 := (congrArg (fun z9 => va_P D vwCl z9 _) hq9).mp hP2
            replace hD2 := (congrArg (fun z9 => va_D _ z9) hq9).mp hD2
            clear hq9
            have hq9 : ([sO cy hh a kk dd b w ee qq ik, ia cy (hh 1) 7 (fnd C (cLay x1 x2 x3))] ++ (shB cy qq (if cLay x1 x2 x3 = 7 then va_up bi (bstN x1) x2 else bi) si f)) = ([sO cy hh a kk dd b w ee qq ik, ia cy (hh 1) 7 (fnd C (cLay x1 x2 x3))] ++ (shB cy qq (if cLay x1 x2 x3 = 7 then va_up bi (bstN x1) x2 else bi) (if cLay x1 x2 x3 = 7 then va_up si (bstN x1) (if x2 = 0 then 0 else x3) else si) f)) := congrArg (fun z9 => [sO cy hh a kk dd b w ee qq ik, ia cy (hh 1) 7 (fnd C (cLay x1 x2 x3))] ++ (shB cy qq (if cLay x1 x2 x3 = 7 then va_up bi (bstN x1) x2 else bi) z9 f)) (show si = (if cLay x1 x2 x3 = 7 then va_up si (bstN x1) (if x2 = 0 then 0 else x3) else si) from (if_neg (fun z9 => absurd (hcd.symm.trans z9) (by decide))).symm)
            replace hP2 := (congrArg (fun z9 => va_P D vwCl z9 _) hq9).mp hP2
            replace hD2 := (congrArg (fun z9 => va_D _ z9) hq9).mp hD2
            clear hq9
            have hq9 : ([sO cy hh a kk dd b w ee qq ik, ia cy (hh 1) 7 (fnd C (cLay x1 x2 x3))] ++ (shB cy qq (if cLay x1 x2 x3 = 7 then va_up bi (bstN x1) x2 else bi) (if cLay x1 x2 x3 = 7 then va_up si (bstN x1) (if x2 = 0 then 0 else x3) else si) f)) = ([sO cy hh a kk dd b w ee qq ik, ia cy (hh 1) 7 (fnd C (cLay x1 x2 x3))] ++ (shB cy qq (if cLay x1 x2 x3 = 7 then va_up bi (bstN x1) x2 else bi) (if cLay x1 x2 x3 = 7 then va_up si (bstN x1) (if x2 = 0 then 0 else x3) else si) (if cLay x1 x2 x3 = 7 then va_up f (bstN x1) (fun _ => 0) else f))) := congrArg (fun z9 => [sO cy hh a kk dd b w ee qq ik, ia cy (hh 1) 7 (fnd C (cLay x1 x2 x3))] ++ (shB cy qq (if cLay x1 x2 x3 = 7 then va_up bi (bstN x1) x2 else bi) (if cLay x1 x2 x3 = 7 then va_up si (bstN x1) (if x2 = 0 then 0 else x3) else si) z9)) (show f = (if cLay x1 x2 x3 = 7 then va_up f (bstN x1) (fun _ => 0) else f) from (if_neg (fun z9 => absurd (hcd.symm.trans z9) (by decide))).symm)
            replace hP2 := (congrArg (fun z9 => va_P D vwCl z9 _) hq9).mp hP2
            replace hD2 := (congrArg (fun z9 => va_D _ z9) hq9).mp hD2
            clear hq9
            refine re_i () hx hb hr hlocks hP2 hD2 hS2 dX6_sheet_35 ?_
            exact (ans_f hcd (by decide) rfl)

theorem kc_X6_write : kV yX6_write cX6_write 8 (some .long) 3 := ⟨kw_4_5, kw_4_6, kw_1_1, kw_4_7, by decide, by decide, by decide +kernel⟩
set_option maxHeartbeats 4000000 in
set_option maxRecDepth 100000 in
theorem c_X6_write (l : Launch) (D : va_G) (cy : Nat → ClassId) (G : Nat → Nat) (sz : Nat) (hh : Nat → Nat) (a : Nat → Nat) (kk : Nat → Nat) (dd : Nat → Nat) (b : Nat → Nat) (w : Nat → Nat) (ee : Nat → Nat) (qq : Nat → Nat) (ik : Int32) (C : Nat → Int32) (bi : Nat → Int32) (si : Nat → Int32) (f : Nat → Nat → Int64) (x1 : Int32) (x2 : Int32) (x3 : Int64) (hso : shOk si f) : Met l yX6_write (wm yX6_write cX6_write 8 (some .long)) { frames := 1, cells := 0, slots := 0, locals := 23 } (va_Pc [.ref (hh 0), .int x1, .int x2, .long x3] (pr D (TY cy) G ([sO cy hh a kk dd b w ee qq ik, ia cy (hh 1) 7 C] ++ (shB cy qq bi si f)) sz)) (va_Ql (fun (r : Int64) (u : Unit) => r = ansL (cWrite bi si x1 x2) (f (bstN x1) (bstN x2))) (fun (u : Unit) t => po D (va_A ([sO cy hh a kk dd b w ee qq ik, ia cy (hh 1) 7 C] ++ (shB cy qq bi si f)) sz) ([sO cy hh a kk dd b w ee qq ik, ia cy (hh 1) 7 (fnd C (cWrite bi si x1 x2))] ++ (shB cy qq bi si (if cWrite bi si x1 x2 = 7 then va_up f (bstN x1) (vp_updL (f (bstN x1)) (bstN x2) (nrw (bi (bstN x1)) x3)) else f))) t) (va_A ([sO cy hh a kk dd b w ee qq ik, ia cy (hh 1) 7 C] ++ (shB cy qq bi si f)) sz)) 0 0 (va_A ([sO cy hh a kk dd b w ee qq ik, ia cy (hh 1) 7 C] ++ (shB cy qq bi si f)) sz) := by
  refine mk_rw (by decide) RX6 rfl (Nat.le_of_ble_eq_true rfl) [(0, .ref (hh 0)), (1, .int x1), (2, .int x2), (3, .long x3)] rfl ?_
  intro p e s m below meth c hx hb hml hown hr hlocks hin hw hsz hA hG hK H0 locs0 hP0 hD0 hS0 ls0 hl0
  clear hin
  have hz0 := (hso 0 (by decide)).1
  have hz1 := (hso 1 (by decide)).1
  have hz2 := (hso 2 (by decide)).1
  have hz3 := (hso 3 (by decide)).1
  have hq0 := (hso 0 (by decide)).2.1
  have hq1 := (hso 1 (by decide)).2.1
  have hq2 := (hso 2 (by decide)).2.1
  have hq3 := (hso 3 (by decide)).2.1
  have hb0 : bstN 0 = 0 := rfl
  have hb1 : bstN 1 = 1 := rfl
  have hb2 : bstN 2 = 2 := rfl
  have hb3 : bstN 3 = 3 := rfl
  refine lv_aload_n hx hb dX6_write_0 rfl (lv_at hl0 0 rfl) ?_
  refine lv_iload_n hx hb dX6_write_1 rfl (lv_at hl0 1 rfl) ?_
  refine rV_i (wc := [sO cy hh a kk dd b w ee qq ik]) (rest := []) hx hb hml hown hw hG hK hP0 hS0 hA hl0 kc_X6_isSheet kw_3_128 [.int x1] (c_X6_isSheet l D cy G H0.size hh a kk dd b w ee qq ik x1) [0] rfl 0 rfl rfl rfl rfl rfl (Nat.le_of_ble_eq_true rfl) ⟨Nat.le_of_ble_eq_true rfl, Nat.le_of_ble_eq_true rfl⟩ dX6_write_2 ⟨Nat.le_of_ble_eq_true rfl, Nat.le_of_ble_eq_true rfl⟩ (fun r_2 H1 locs1 hr_2 hP1 hS1 => ?_)
  have hD1 := hD0
  clear hP0 hD0 hS0 locs0 H0
  subst hr_2
  refine lb_ne (tgt := 15) hx hb dX6_write_5 (by decide) (fun c_5 => ?_) (fun c_5 => ?_)
  · rcases in3 c_5 with rfl | rfl | rfl | rfl
    · replace hP1 : va_P D vwCl ([sO cy hh a kk dd b w ee qq ik, ia cy (hh 1) 7 C, qsB cy qq, hO cy (qq 1) (qq 5) (bi 0) (si 0), hO cy (qq 2) (qq 6) (bi 1) (si 1), hO cy (qq 3) (qq 7) (bi 2) (si 2), hO cy (qq 4) (qq 8) (bi 3) (si 3), la cy (qq 5) 40 (f 0), la cy (qq 6) 40 (f 1), la cy (qq 7) 40 (f 2), la cy (qq 8) 40 (f 3)]) H1 := hP1
      replace hD1 : va_D (va_A _ sz) ([sO cy hh a kk dd b w ee qq ik, ia cy (hh 1) 7 C, qsB cy qq, hO cy (qq 1) (qq 5) (bi 0) (si 0), hO cy (qq 2) (qq 6) (bi 1) (si 1), hO cy (qq 3) (qq 7) (bi 2) (si 2), hO cy (qq 4) (qq 8) (bi 3) (si 3), la cy (qq 5) 40 (f 0), la cy (qq 6) 40 (f 1), la cy (qq 7) 40 (f 2), la cy (qq 8) 40 (f 3)]) := hD1
      refine lv_aload_n hx hb dX6_write_15 rfl (lv_at hl0 0 rfl) ?_
      refine va_get (D := D) (ci := 6) (v := .ref (qq 0)) (C := RX6) (T := TX6) (N := 9) hx hb hw iX6 hown hK hP1 0 rfl rfl 7 (by decide) (hw _ kw_2_34) (fun _ h9 => h9) rfl dX6_write_16 ?_
      refine lv_iload_n hx hb dX6_write_19 rfl (lv_at hl0 1 rfl) ?_
      refine ald_q hx hb hK hP1 2 3 rfl rfl rfl 0 rfl (by first | omega | assumption) (by decide) (rfl) dX6_write_20 ?_
      refine lv_astore (lv' := [(5, .ref (qq 1)), (0, .ref (hh 0)), (1, .int 0), (2, .int x2), (3, .long x3)]) hx hb dX6_write_21 hl0 (by decide) rfl (fun ls1 hl1 => ?_)
      clear hl0 ls0
      refine lv_aload hx hb dX6_write_23 (lv_at hl1 0 rfl) ?_
      refine va_get (D := D) (ci := 2) (v := .int (bi 0)) (C := RX2) (T := TX2) (N := 3) hx hb hw iX2 hown hK hP1 3 rfl rfl 1 (by decide) (hw _ kw_2_16) (fun _ h9 => h9) rfl dX6_write_25 ?_
      refine lv_if_ne (tgt := 38) hx hb dX6_write_28 (by decide) (fun c_28 => ?_) (fun c_28 => ?_)
      · refine lv_iload_n hx hb dX6_write_38 rfl (lv_at hl1 3 rfl) ?_
        refine lv_if_lt (tgt := 51) hx hb dX6_write_39 (by decide) (fun c_39 => ?_) (fun c_39 => ?_)
        · replace hP1 : va_P D vwCl ([sO cy hh a kk dd b w ee qq ik, ia cy (hh 1) 7 C] ++ (shB cy qq bi si f)) H1 := hP1
          replace hD1 : va_D (va_A _ sz) ([sO cy hh a kk dd b w ee qq ik, ia cy (hh 1) 7 C] ++ (shB cy qq bi si f)) := hD1
          refine lv_aload_n hx hb dX6_write_51 rfl (lv_at hl1 1 rfl) ?_
          refine lv_iconst (v := 0) hx hb dX6_write_52 (by decide) ?_
          refine cV_i (wc := [sO cy hh a kk dd b w ee qq ik, ia cy (hh 1) 7 C]) (wr := shB cy qq bi si f) (rest := []) hx hb hml hown hw hG hK hP1 hD1 hS1 hA hl1 kc_X6_find kw_2_59 [.int 0] (c_X6_find l D cy G H1.size hh a kk dd b w ee qq ik C 0 (by first | omega | assumption)) [0, 1] [2, 3, 4, 5, 6, 7, 8, 9, 10] rfl rfl rfl rfl rfl 0 rfl rfl rfl rfl rfl (Nat.le_of_ble_eq_true rfl) ⟨Nat.le_of_ble_eq_true rfl, Nat.le_of_ble_eq_true rfl⟩ dX6_write_53 ⟨Nat.le_of_ble_eq_true rfl, Nat.le_of_ble_eq_true rfl⟩ (fun r_53 u9 H2 locs2 hu9 hP2 hD2 hS2 => ?_)
          clear hP1 hD1 hS1 locs1 H1
          have hr_53 := hu9
          replace hP2 : va_P D vwCl (shB cy qq bi si f ++ ([sO cy hh a kk dd b w ee qq ik, ia cy (hh 1) 7 (upd C 0 (C 0 + 1))])) H2 := hP2
          replace hD2 : va_D (va_A _ sz) (shB cy qq bi si f ++ ([sO cy hh a kk dd b w ee qq ik, ia cy (hh 1) 7 (upd C 0 (C 0 + 1))])) := hD2
          replace hP2 := hP2.sub (ws' := [sO cy hh a kk dd b w ee qq ik, ia cy (hh 1) 7 (upd C 0 (C 0 + 1))] ++ (shB cy qq bi si f)) [9, 10, 0, 1, 2, 3, 4, 5, 6, 7, 8] rfl
          replace hD2 := hD2.sub (ws' := [sO cy hh a kk dd b w ee qq ik, ia cy (hh 1) 7 (upd C 0 (C 0 + 1))] ++ (shB cy qq bi si f)) [9, 10, 0, 1, 2, 3, 4, 5, 6, 7, 8] (by decide) rfl
          subst hr_53
          refine lv_i2l hx hb dX6_write_56 rfl ?_
          have hcd : cWrite bi si 0 x2 = 0 := by unfold cWrite; clear hx hb hml hown hr hlocks hw hsz hA hG hK hP2 hD2 hS2 hl1; grind
          have hq9 : ([sO cy hh a kk dd b w ee qq ik, ia cy (hh 1) 7 (upd C 0 (C 0 + 1))] ++ (shB cy qq bi si f)) = ([sO cy hh a kk dd b w ee qq ik, ia cy (hh 1) 7 (fnd C (cWrite bi si 0 x2))] ++ (shB cy qq bi si f)) := congrArg (fun z9 => [sO cy hh a kk dd b w ee qq ik, ia cy (hh 1) 7 z9] ++ (shB cy qq bi si f)) (show (upd C 0 (C 0 + 1)) = (fnd C (cWrite bi si 0 x2)) from fnd_f hcd (by decide))
          replace hP2 := (congrArg (fun z9 => va_P D vwCl z9 _) hq9).mp hP2
          replace hD2 := (congrArg (fun z9 => va_D _ z9) hq9).mp hD2
          clear hq9
          have hq9 : ([sO cy hh a kk dd b w ee qq ik, ia cy (hh 1) 7 (fnd C (cWrite bi si 0 x2))] ++ (shB cy qq bi si f)) = ([sO cy hh a kk dd b w ee qq ik, ia cy (hh 1) 7 (fnd C (cWrite bi si 0 x2))] ++ (shB cy qq bi si (if cWrite bi si 0 x2 = 7 then va_up f (bstN 0) (vp_updL (f (bstN 0)) (bstN x2) (nrw (bi (bstN 0)) x3)) else f))) := congrArg (fun z9 => [sO cy hh a kk dd b w ee qq ik, ia cy (hh 1) 7 (fnd C (cWrite bi si 0 x2))] ++ (shB cy qq bi si z9)) (show f = (if cWrite bi si 0 x2 = 7 then va_up f (bstN 0) (vp_updL (f (bstN 0)) (bstN x2) (nrw (bi (bstN 0)) x3)) else f) from (if_neg (fun z9 => absurd (hcd.symm.trans z9) (by decide))).symm)
          replace hP2 := (congrArg (fun z9 => va_P D vwCl z9 _) hq9).mp hP2
          replace hD2 := (congrArg (fun z9 => va_D _ z9) hq9).mp hD2
          clear hq9
          refine re_l () hx hb hr hlocks hP2 hD2 hS2 dX6_write_57 ?_
          exact (ansL_f hcd (by decide) rfl)
        · refine lv_iload_n hx hb dX6_write_42 rfl (lv_at hl1 3 rfl) ?_
          refine lv_aload hx hb dX6_write_43 (lv_at hl1 0 rfl) ?_
          refine va_get (D := D) (ci := 2) (v := .int (si 0)) (C := RX2) (T := TX2) (N := 3) hx hb hw iX2 hown hK hP1 3 rfl rfl 2 (by decide) (hw _ kw_2_18) (fun _ h9 => h9) rfl dX6_write_45 ?_
          refine tp (show (si 0) = nI (bstN (si 0)) from (hso 0 (by decide)).1) ?_
          refine lv_icmp_lt (tgt := 58) hx hb dX6_write_48 (by decide) (fun c_48 => ?_) (fun c_48 => ?_)
          · obtain ⟨j, hj, rfl⟩ := nI_rn (n := bstN (si 0)) (by omega) (x := x2) ⟨Int32.not_lt.mp c_39, c_48⟩
            have hbj : bstN (nI j) = j := bst_n (by omega)
            refine lv_aload hx hb dX6_write_58 (lv_at hl1 0 rfl) ?_
            refine va_get (D := D) (ci := 2) (v := .ref (qq 5)) (C := RX2) (T := TX2) (N := 3) hx hb hw iX2 hown hK hP1 3 rfl rfl 0 (by decide) (hw _ kw_2_14) (fun _ h9 => h9) rfl dX6_write_60 ?_
            refine lv_iload_n hx hb dX6_write_63 rfl (lv_at hl1 3 rfl) ?_
            refine ald_l (f := f 0) hx hb hK hP1 7 1 rfl rfl j rfl (by first | omega | assumption) (by decide) dX6_write_64 ?_
            refine lv_lstore (lv' := [(6, .long ((f 0) j)), (5, .ref (qq 1)), (0, .ref (hh 0)), (1, .int 0), (2, .int (nI j)), (3, .long x3)]) hx hb dX6_write_65 hl1 (by decide) rfl (fun ls2 hl2 => ?_)
            clear hl1 ls1
            refine lv_aload hx hb dX6_write_67 (lv_at hl2 1 rfl) ?_
            refine lv_iload_n hx hb dX6_write_69 rfl (lv_at hl2 4 rfl) ?_
            refine lv_lload_n hx hb dX6_write_70 rfl (lv_at hl2 5 rfl) ?_
            refine cV_v (wc := [hO cy (qq 1) (qq 5) (bi 0) (si 0), la cy (qq 5) 40 (f 0)]) (wr := [sO cy hh a kk dd b w ee qq ik, ia cy (hh 1) 7 C, qsB cy qq, hO cy (qq 2) (qq 6) (bi 1) (si 1), hO cy (qq 3) (qq 7) (bi 2) (si 2), hO cy (qq 4) (qq 8) (bi 3) (si 3), la cy (qq 6) 40 (f 1), la cy (qq 7) 40 (f 2), la cy (qq 8) 40 (f 3)]) (rest := []) hx hb hml hown hw hG hK hP1 hD1 hS1 hA hl2 kc_X2_put kw_3_132 [.int (nI j), .long x3] (c_X2_put l D cy G H1.size (qq 1) (qq 5) (bi 0) (si 0) (f 0) (bstN (si 0)) j x3 ((hso 0 (by decide)).1) hj hq0) [3, 7] [0, 1, 2, 4, 5, 6, 8, 9, 10] rfl rfl rfl rfl rfl 0 rfl rfl rfl rfl rfl (Nat.le_of_ble_eq_true rfl) ⟨Nat.le_of_ble_eq_true rfl, Nat.le_of_ble_eq_true rfl⟩ dX6_write_71 ⟨Nat.le_of_ble_eq_true rfl, Nat.le_of_ble_eq_true rfl⟩ (fun u9 H2 locs2 hu9 hP2 hD2 hS2 => ?_)
            clear hP1 hD1 hS1 locs1 H1
            replace hP2 : va_P D vwCl ([sO cy hh a kk dd b w ee qq ik, ia cy (hh 1) 7 C, qsB cy qq, hO cy (qq 2) (qq 6) (bi 1) (si 1), hO cy (qq 3) (qq 7) (bi 2) (si 2), hO cy (qq 4) (qq 8) (bi 3) (si 3), la cy (qq 6) 40 (f 1), la cy (qq 7) 40 (f 2), la cy (qq 8) 40 (f 3), hO cy (qq 1) (qq 5) (bi 0) (si 0), la cy (qq 5) 40 (vp_updL (f 0) j (nrw (bi 0) x3))]) H2 := hP2
            replace hD2 : va_D (va_A _ sz) ([sO cy hh a kk dd b w ee qq ik, ia cy (hh 1) 7 C, qsB cy qq, hO cy (qq 2) (qq 6) (bi 1) (si 1), hO cy (qq 3) (qq 7) (bi 2) (si 2), hO cy (qq 4) (qq 8) (bi 3) (si 3), la cy (qq 6) 40 (f 1), la cy (qq 7) 40 (f 2), la cy (qq 8) 40 (f 3), hO cy (qq 1) (qq 5) (bi 0) (si 0), la cy (qq 5) 40 (vp_updL (f 0) j (nrw (bi 0) x3))]) := hD2
            replace hP2 := hP2.sub (ws' := [sO cy hh a kk dd b w ee qq ik, ia cy (hh 1) 7 C, qsB cy qq, hO cy (qq 1) (qq 5) (bi 0) (si 0), hO cy (qq 2) (qq 6) (bi 1) (si 1), hO cy (qq 3) (qq 7) (bi 2) (si 2), hO cy (qq 4) (qq 8) (bi 3) (si 3), la cy (qq 5) 40 (vp_updL (f 0) j (nrw (bi 0) x3)), la cy (qq 6) 40 (f 1), la cy (qq 7) 40 (f 2), la cy (qq 8) 40 (f 3)]) [0, 1, 2, 9, 3, 4, 5, 10, 6, 7, 8] rfl
            replace hD2 := hD2.sub (ws' := [sO cy hh a kk dd b w ee qq ik, ia cy (hh 1) 7 C, qsB cy qq, hO cy (qq 1) (qq 5) (bi 0) (si 0), hO cy (qq 2) (qq 6) (bi 1) (si 1), hO cy (qq 3) (qq 7) (bi 2) (si 2), hO cy (qq 4) (qq 8) (bi 3) (si 3), la cy (qq 5) 40 (vp_updL (f 0) j (nrw (bi 0) x3)), la cy (qq 6) 40 (f 1), la cy (qq 7) 40 (f 2), la cy (qq 8) 40 (f 3)]) [0, 1, 2, 9, 3, 4, 5, 10, 6, 7, 8] (by decide) rfl
            refine lv_lload hx hb dX6_write_74 (lv_at hl2 0 rfl) ?_
            replace hP2 : va_P D vwCl ([sO cy hh a kk dd b w ee qq ik, ia cy (hh 1) 7 C] ++ (shB cy qq bi si (va_up f 0 (vp_updL (f 0) j (nrw (bi 0) x3))))) H2 := hP2
            replace hD2 : va_D (va_A _ sz) ([sO cy hh a kk dd b w ee qq ik, ia cy (hh 1) 7 C] ++ (shB cy qq bi si (va_up f 0 (vp_updL (f 0) j (nrw (bi 0) x3))))) := hD2
            have hcd : cWrite bi si 0 (nI j) = 7 := by unfold cWrite; clear hx hb hml hown hr hlocks hw hsz hA hG hK hP2 hD2 hS2 hl2; grind
            have hq9 : ([sO cy hh a kk dd b w ee qq ik, ia cy (hh 1) 7 C] ++ (shB cy qq bi si (va_up f 0 (vp_updL (f 0) j (nrw (bi 0) x3))))) = ([sO cy hh a kk dd b w ee qq ik, ia cy (hh 1) 7 (fnd C (cWrite bi si 0 (nI j)))] ++ (shB cy qq bi si (va_up f 0 (vp_updL (f 0) j (nrw (bi 0) x3))))) := congrArg (fun z9 => [sO cy hh a kk dd b w ee qq ik, ia cy (hh 1) 7 z9] ++ (shB cy qq bi si (va_up f 0 (vp_updL (f 0) j (nrw (bi 0) x3))))) (show C = (fnd C (cWrite bi si 0 (nI j))) from fnd_o hcd)
            replace hP2 := (congrArg (fun z9 => va_P D vwCl z9 _) hq9).mp hP2
            replace hD2 := (congrArg (fun z9 => va_D _ z9) hq9).mp hD2
            clear hq9
            have hq9 : ([sO cy hh a kk dd b w ee qq ik, ia cy (hh 1) 7 (fnd C (cWrite bi si 0 (nI j)))] ++ (shB cy qq bi si (va_up f 0 (vp_updL (f 0) j (nrw (bi 0) x3))))) = ([sO cy hh a kk dd b w ee qq ik, ia cy (hh 1) 7 (fnd C (cWrite bi si 0 (nI j)))] ++ (shB cy qq bi si (if cWrite bi si 0 (nI j) = 7 then va_up f (bstN 0) (vp_updL (f (bstN 0)) (bstN (nI j)) (nrw (bi (bstN 0)) x3)) else f))) := congrArg (fun z9 => [sO cy hh a kk dd b w ee qq ik, ia cy (hh 1) 7 (fnd C (cWrite bi si 0 (nI j)))] ++ (shB cy qq bi si z9)) (show (va_up f 0 (vp_updL (f 0) j (nrw (bi 0) x3))) = (if cWrite bi si 0 (nI j) = 7 then va_up f (bstN 0) (vp_updL (f (bstN 0)) (bstN (nI j)) (nrw (bi (bstN 0)) x3)) else f) from by rw [if_pos hcd]; simp only [hbj, hb0, hb1, hb2, hb3])
            replace hP2 := (congrArg (fun z9 => va_P D vwCl z9 _) hq9).mp hP2
            replace hD2 := (congrArg (fun z9 => va_D _ z9) hq9).mp hD2
            clear hq9
            refine re_l () hx hb hr hlocks hP2 hD2 hS2 dX6_write_76 ?_
            exact (ansL_o hcd (by rw [hbj]; simp only [hb0, hb1, hb2, hb3]))
          · replace hP1 : va_P D vwCl ([sO cy hh a kk dd b w ee qq ik, ia cy (hh 1) 7 C] ++ (shB cy qq bi si f)) H1 := hP1
            replace hD1 : va_D (va_A _ sz) ([sO cy hh a kk dd b w ee qq ik, ia cy (hh 1) 7 C] ++ (shB cy qq bi si f)) := hD1
            refine lv_aload_n hx hb dX6_write_51 rfl (lv_at hl1 1 rfl) ?_
            refine lv_iconst (v := 0) hx hb dX6_write_52 (by decide) ?_
            refine cV_i (wc := [sO cy hh a kk dd b w ee qq ik, ia cy (hh 1) 7 C]) (wr := shB cy qq bi si f) (rest := []) hx hb hml hown hw hG hK hP1 hD1 hS1 hA hl1 kc_X6_find kw_2_59 [.int 0] (c_X6_find l D cy G H1.size hh a kk dd b w ee qq ik C 0 (by first | omega | assumption)) [0, 1] [2, 3, 4, 5, 6, 7, 8, 9, 10] rfl rfl rfl rfl rfl 0 rfl rfl rfl rfl rfl (Nat.le_of_ble_eq_true rfl) ⟨Nat.le_of_ble_eq_true rfl, Nat.le_of_ble_eq_true rfl⟩ dX6_write_53 ⟨Nat.le_of_ble_eq_true rfl, Nat.le_of_ble_eq_true rfl⟩ (fun r_53 u9 H2 locs2 hu9 hP2 hD2 hS2 => ?_)
            clear hP1 hD1 hS1 locs1 H1
            have hr_53 := hu9
            replace hP2 : va_P D vwCl (shB cy qq bi si f ++ ([sO cy hh a kk dd b w ee qq ik, ia cy (hh 1) 7 (upd C 0 (C 0 + 1))])) H2 := hP2
            replace hD2 : va_D (va_A _ sz) (shB cy qq bi si f ++ ([sO cy hh a kk dd b w ee qq ik, ia cy (hh 1) 7 (upd C 0 (C 0 + 1))])) := hD2
            replace hP2 := hP2.sub (ws' := [sO cy hh a kk dd b w ee qq ik, ia cy (hh 1) 7 (upd C 0 (C 0 + 1))] ++ (shB cy qq bi si f)) [9, 10, 0, 1, 2, 3, 4, 5, 6, 7, 8] rfl
            replace hD2 := hD2.sub (ws' := [sO cy hh a kk dd b w ee qq ik, ia cy (hh 1) 7 (upd C 0 (C 0 + 1))] ++ (shB cy qq bi si f)) [9, 10, 0, 1, 2, 3, 4, 5, 6, 7, 8] (by decide) rfl
            subst hr_53
            refine lv_i2l hx hb dX6_write_56 rfl ?_
            have hcd : cWrite bi si 0 x2 = 0 := by unfold cWrite; clear hx hb hml hown hr hlocks hw hsz hA hG hK hP2 hD2 hS2 hl1; grind
            have hq9 : ([sO cy hh a kk dd b w ee qq ik, ia cy (hh 1) 7 (upd C 0 (C 0 + 1))] ++ (shB cy qq bi si f)) = ([sO cy hh a kk dd b w ee qq ik, ia cy (hh 1) 7 (fnd C (cWrite bi si 0 x2))] ++ (shB cy qq bi si f)) := congrArg (fun z9 => [sO cy hh a kk dd b w ee qq ik, ia cy (hh 1) 7 z9] ++ (shB cy qq bi si f)) (show (upd C 0 (C 0 + 1)) = (fnd C (cWrite bi si 0 x2)) from fnd_f hcd (by decide))
            replace hP2 := (congrArg (fun z9 => va_P D vwCl z9 _) hq9).mp hP2
            replace hD2 := (congrArg (fun z9 => va_D _ z9) hq9).mp hD2
            clear hq9
            have hq9 : ([sO cy hh a kk dd b w ee qq ik, ia cy (hh 1) 7 (fnd C (cWrite bi si 0 x2))] ++ (shB cy qq bi si f)) = ([sO cy hh a kk dd b w ee qq ik, ia cy (hh 1) 7 (fnd C (cWrite bi si 0 x2))] ++ (shB cy qq bi si (if cWrite bi si 0 x2 = 7 then va_up f (bstN 0) (vp_updL (f (bstN 0)) (bstN x2) (nrw (bi (bstN 0)) x3)) else f))) := congrArg (fun z9 => [sO cy hh a kk dd b w ee qq ik, ia cy (hh 1) 7 (fnd C (cWrite bi si 0 x2))] ++ (shB cy qq bi si z9)) (show f = (if cWrite bi si 0 x2 = 7 then va_up f (bstN 0) (vp_updL (f (bstN 0)) (bstN x2) (nrw (bi (bstN 0)) x3)) else f) from (if_neg (fun z9 => absurd (hcd.symm.trans z9) (by decide))).symm)
            replace hP2 := (congrArg (fun z9 => va_P D vwCl z9 _) hq9).mp hP2
            replace hD2 := (congrArg (fun z9 => va_D _ z9) hq9).mp hD2
            clear hq9
            refine re_l () hx hb hr hlocks hP2 hD2 hS2 dX6_write_57 ?_
            exact (ansL_f hcd (by decide) rfl)
      · replace hP1 : va_P D vwCl ([sO cy hh a kk dd b w ee qq ik, ia cy (hh 1) 7 C] ++ (shB cy qq bi si f)) H1 := hP1
        replace hD1 : va_D (va_A _ sz) ([sO cy hh a kk dd b w ee qq ik, ia cy (hh 1) 7 C] ++ (shB cy qq bi si f)) := hD1
        refine lv_aload_n hx hb dX6_write_31 rfl (lv_at hl1 1 rfl) ?_
        refine lv_iconst (v := 5) hx hb dX6_write_32 (by decide) ?_
        refine cV_i (wc := [sO cy hh a kk dd b w ee qq ik, ia cy (hh 1) 7 C]) (wr := shB cy qq bi si f) (rest := []) hx hb hml hown hw hG hK hP1 hD1 hS1 hA hl1 kc_X6_find kw_2_59 [.int 5] (c_X6_find l D cy G H1.size hh a kk dd b w ee qq ik C 5 (by first | omega | assumption)) [0, 1] [2, 3, 4, 5, 6, 7, 8, 9, 10] rfl rfl rfl rfl rfl 0 rfl rfl rfl rfl rfl (Nat.le_of_ble_eq_true rfl) ⟨Nat.le_of_ble_eq_true rfl, Nat.le_of_ble_eq_true rfl⟩ dX6_write_33 ⟨Nat.le_of_ble_eq_true rfl, Nat.le_of_ble_eq_true rfl⟩ (fun r_33 u9 H2 locs2 hu9 hP2 hD2 hS2 => ?_)
        clear hP1 hD1 hS1 locs1 H1
        have hr_33 := hu9
        replace hP2 : va_P D vwCl (shB cy qq bi si f ++ ([sO cy hh a kk dd b w ee qq ik, ia cy (hh 1) 7 (upd C 5 (C 5 + 1))])) H2 := hP2
        replace hD2 : va_D (va_A _ sz) (shB cy qq bi si f ++ ([sO cy hh a kk dd b w ee qq ik, ia cy (hh 1) 7 (upd C 5 (C 5 + 1))])) := hD2
        replace hP2 := hP2.sub (ws' := [sO cy hh a kk dd b w ee qq ik, ia cy (hh 1) 7 (upd C 5 (C 5 + 1))] ++ (shB cy qq bi si f)) [9, 10, 0, 1, 2, 3, 4, 5, 6, 7, 8] rfl
        replace hD2 := hD2.sub (ws' := [sO cy hh a kk dd b w ee qq ik, ia cy (hh 1) 7 (upd C 5 (C 5 + 1))] ++ (shB cy qq bi si f)) [9, 10, 0, 1, 2, 3, 4, 5, 6, 7, 8] (by decide) rfl
        subst hr_33
        refine lv_i2l hx hb dX6_write_36 rfl ?_
        have hcd : cWrite bi si 0 x2 = 5 := by unfold cWrite; clear hx hb hml hown hr hlocks hw hsz hA hG hK hP2 hD2 hS2 hl1; grind
        have hq9 : ([sO cy hh a kk dd b w ee qq ik, ia cy (hh 1) 7 (upd C 5 (C 5 + 1))] ++ (shB cy qq bi si f)) = ([sO cy hh a kk dd b w ee qq ik, ia cy (hh 1) 7 (fnd C (cWrite bi si 0 x2))] ++ (shB cy qq bi si f)) := congrArg (fun z9 => [sO cy hh a kk dd b w ee qq ik, ia cy (hh 1) 7 z9] ++ (shB cy qq bi si f)) (show (upd C 5 (C 5 + 1)) = (fnd C (cWrite bi si 0 x2)) from fnd_f hcd (by decide))
        replace hP2 := (congrArg (fun z9 => va_P D vwCl z9 _) hq9).mp hP2
        replace hD2 := (congrArg (fun z9 => va_D _ z9) hq9).mp hD2
        clear hq9
        have hq9 : ([sO cy hh a kk dd b w ee qq ik, ia cy (hh 1) 7 (fnd C (cWrite bi si 0 x2))] ++ (shB cy qq bi si f)) = ([sO cy hh a kk dd b w ee qq ik, ia cy (hh 1) 7 (fnd C (cWrite bi si 0 x2))] ++ (shB cy qq bi si (if cWrite bi si 0 x2 = 7 then va_up f (bstN 0) (vp_updL (f (bstN 0)) (bstN x2) (nrw (bi (bstN 0)) x3)) else f))) := congrArg (fun z9 => [sO cy hh a kk dd b w ee qq ik, ia cy (hh 1) 7 (fnd C (cWrite bi si 0 x2))] ++ (shB cy qq bi si z9)) (show f = (if cWrite bi si 0 x2 = 7 then va_up f (bstN 0) (vp_updL (f (bstN 0)) (bstN x2) (nrw (bi (bstN 0)) x3)) else f) from (if_neg (fun z9 => absurd (hcd.symm.trans z9) (by decide))).symm)
        replace hP2 := (congrArg (fun z9 => va_P D vwCl z9 _) hq9).mp hP2
        replace hD2 := (congrArg (fun z9 => va_D _ z9) hq9).mp hD2
        clear hq9
        refine re_l () hx hb hr hlocks hP2 hD2 hS2 dX6_write_37 ?_
        exact (ansL_f hcd (by decide) rfl)
    · replace hP1 : va_P D vwCl ([sO cy hh a kk dd b w ee qq ik, ia cy (hh 1) 7 C, qsB cy qq, hO cy (qq 1) (qq 5) (bi 0) (si 0), hO cy (qq 2) (qq 6) (bi 1) (si 1), hO cy (qq 3) (qq 7) (bi 2) (si 2), hO cy (qq 4) (qq 8) (bi 3) (si 3), la cy (qq 5) 40 (f 0), la cy (qq 6) 40 (f 1), la cy (qq 7) 40 (f 2), la cy (qq 8) 40 (f 3)]) H1 := hP1
      replace hD1 : va_D (va_A _ sz) ([sO cy hh a kk dd b w ee qq ik, ia cy (hh 1) 7 C, qsB cy qq, hO cy (qq 1) (qq 5) (bi 0) (si 0), hO cy (qq 2) (qq 6) (bi 1) (si 1), hO cy (qq 3) (qq 7) (bi 2) (si 2), hO cy (qq 4) (qq 8) (bi 3) (si 3), la cy (qq 5) 40 (f 0), la cy (qq 6) 40 (f 1), la cy (qq 7) 40 (f 2), la cy (qq 8) 40 (f 3)]) := hD1
      refine lv_aload_n hx hb dX6_write_15 rfl (lv_at hl0 0 rfl) ?_
      refine va_get (D := D) (ci := 6) (v := .ref (qq 0)) (C := RX6) (T := TX6) (N := 9) hx hb hw iX6 hown hK hP1 0 rfl rfl 7 (by decide) (hw _ kw_2_34) (fun _ h9 => h9) rfl dX6_write_16 ?_
      refine lv_iload_n hx hb dX6_write_19 rfl (lv_at hl0 1 rfl) ?_
      refine ald_q hx hb hK hP1 2 3 rfl rfl rfl 1 rfl (by first | omega | assumption) (by decide) (rfl) dX6_write_20 ?_
      refine lv_astore (lv' := [(5, .ref (qq 2)), (0, .ref (hh 0)), (1, .int 1), (2, .int x2), (3, .long x3)]) hx hb dX6_write_21 hl0 (by decide) rfl (fun ls1 hl1 => ?_)
      clear hl0 ls0
      refine lv_aload hx hb dX6_write_23 (lv_at hl1 0 rfl) ?_
      refine va_get (D := D) (ci := 2) (v := .int (bi 1)) (C := RX2) (T := TX2) (N := 3) hx hb hw iX2 hown hK hP1 4 rfl rfl 1 (by decide) (hw _ kw_2_16) (fun _ h9 => h9) rfl dX6_write_25 ?_
      refine lv_if_ne (tgt := 38) hx hb dX6_write_28 (by decide) (fun c_28 => ?_) (fun c_28 => ?_)
      · refine lv_iload_n hx hb dX6_write_38 rfl (lv_at hl1 3 rfl) ?_
        refine lv_if_lt (tgt := 51) hx hb dX6_write_39 (by decide) (fun c_39 => ?_) (fun c_39 => ?_)
        · replace hP1 : va_P D vwCl ([sO cy hh a kk dd b w ee qq ik, ia cy (hh 1) 7 C] ++ (shB cy qq bi si f)) H1 := hP1
          replace hD1 : va_D (va_A _ sz) ([sO cy hh a kk dd b w ee qq ik, ia cy (hh 1) 7 C] ++ (shB cy qq bi si f)) := hD1
          refine lv_aload_n hx hb dX6_write_51 rfl (lv_at hl1 1 rfl) ?_
          refine lv_iconst (v := 0) hx hb dX6_write_52 (by decide) ?_
          refine cV_i (wc := [sO cy hh a kk dd b w ee qq ik, ia cy (hh 1) 7 C]) (wr := shB cy qq bi si f) (rest := []) hx hb hml hown hw hG hK hP1 hD1 hS1 hA hl1 kc_X6_find kw_2_59 [.int 0] (c_X6_find l D cy G H1.size hh a kk dd b w ee qq ik C 0 (by first | omega | assumption)) [0, 1] [2, 3, 4, 5, 6, 7, 8, 9, 10] rfl rfl rfl rfl rfl 0 rfl rfl rfl rfl rfl (Nat.le_of_ble_eq_true rfl) ⟨Nat.le_of_ble_eq_true rfl, Nat.le_of_ble_eq_true rfl⟩ dX6_write_53 ⟨Nat.le_of_ble_eq_true rfl, Nat.le_of_ble_eq_true rfl⟩ (fun r_53 u9 H2 locs2 hu9 hP2 hD2 hS2 => ?_)
          clear hP1 hD1 hS1 locs1 H1
          have hr_53 := hu9
          replace hP2 : va_P D vwCl (shB cy qq bi si f ++ ([sO cy hh a kk dd b w ee qq ik, ia cy (hh 1) 7 (upd C 0 (C 0 + 1))])) H2 := hP2
          replace hD2 : va_D (va_A _ sz) (shB cy qq bi si f ++ ([sO cy hh a kk dd b w ee qq ik, ia cy (hh 1) 7 (upd C 0 (C 0 + 1))])) := hD2
          replace hP2 := hP2.sub (ws' := [sO cy hh a kk dd b w ee qq ik, ia cy (hh 1) 7 (upd C 0 (C 0 + 1))] ++ (shB cy qq bi si f)) [9, 10, 0, 1, 2, 3, 4, 5, 6, 7, 8] rfl
          replace hD2 := hD2.sub (ws' := [sO cy hh a kk dd b w ee qq ik, ia cy (hh 1) 7 (upd C 0 (C 0 + 1))] ++ (shB cy qq bi si f)) [9, 10, 0, 1, 2, 3, 4, 5, 6, 7, 8] (by decide) rfl
          subst hr_53
          refine lv_i2l hx hb dX6_write_56 rfl ?_
          have hcd : cWrite bi si 1 x2 = 0 := by unfold cWrite; clear hx hb hml hown hr hlocks hw hsz hA hG hK hP2 hD2 hS2 hl1; grind
          have hq9 : ([sO cy hh a kk dd b w ee qq ik, ia cy (hh 1) 7 (upd C 0 (C 0 + 1))] ++ (shB cy qq bi si f)) = ([sO cy hh a kk dd b w ee qq ik, ia cy (hh 1) 7 (fnd C (cWrite bi si 1 x2))] ++ (shB cy qq bi si f)) := congrArg (fun z9 => [sO cy hh a kk dd b w ee qq ik, ia cy (hh 1) 7 z9] ++ (shB cy qq bi si f)) (show (upd C 0 (C 0 + 1)) = (fnd C (cWrite bi si 1 x2)) from fnd_f hcd (by decide))
          replace hP2 := (congrArg (fun z9 => va_P D vwCl z9 _) hq9).mp hP2
          replace hD2 := (congrArg (fun z9 => va_D _ z9) hq9).mp hD2
          clear hq9
          have hq9 : ([sO cy hh a kk dd b w ee qq ik, ia cy (hh 1) 7 (fnd C (cWrite bi si 1 x2))] ++ (shB cy qq bi si f)) = ([sO cy hh a kk dd b w ee qq ik, ia cy (hh 1) 7 (fnd C (cWrite bi si 1 x2))] ++ (shB cy qq bi si (if cWrite bi si 1 x2 = 7 then va_up f (bstN 1) (vp_updL (f (bstN 1)) (bstN x2) (nrw (bi (bstN 1)) x3)) else f))) := congrArg (fun z9 => [sO cy hh a kk dd b w ee qq ik, ia cy (hh 1) 7 (fnd C (cWrite bi si 1 x2))] ++ (shB cy qq bi si z9)) (show f = (if cWrite bi si 1 x2 = 7 then va_up f (bstN 1) (vp_updL (f (bstN 1)) (bstN x2) (nrw (bi (bstN 1)) x3)) else f) from (if_neg (fun z9 => absurd (hcd.symm.trans z9) (by decide))).symm)
          replace hP2 := (congrArg (fun z9 => va_P D vwCl z9 _) hq9).mp hP2
          replace hD2 := (congrArg (fun z9 => va_D _ z9) hq9).mp hD2
          clear hq9
          refine re_l () hx hb hr hlocks hP2 hD2 hS2 dX6_write_57 ?_
          exact (ansL_f hcd (by decide) rfl)
        · refine lv_iload_n hx hb dX6_write_42 rfl (lv_at hl1 3 rfl) ?_
          refine lv_aload hx hb dX6_write_43 (lv_at hl1 0 rfl) ?_
          refine va_get (D := D) (ci := 2) (v := .int (si 1)) (C := RX2) (T := TX2) (N := 3) hx hb hw iX2 hown hK hP1 4 rfl rfl 2 (by decide) (hw _ kw_2_18) (fun _ h9 => h9) rfl dX6_write_45 ?_
          refine tp (show (si 1) = nI (bstN (si 1)) from (hso 1 (by decide)).1) ?_
          refine lv_icmp_lt (tgt := 58) hx hb dX6_write_48 (by decide) (fun c_48 => ?_) (fun c_48 => ?_)
          · obtain ⟨j, hj, rfl⟩ := nI_rn (n := bstN (si 1)) (by omega) (x := x2) ⟨Int32.not_lt.mp c_39, c_48⟩
            have hbj : bstN (nI j) = j := bst_n (by omega)
            refine lv_aload hx hb dX6_write_58 (lv_at hl1 0 rfl) ?_
            refine va_get (D := D) (ci := 2) (v := .ref (qq 6)) (C := RX2) (T := TX2) (N := 3) hx hb hw iX2 hown hK hP1 4 rfl rfl 0 (by decide) (hw _ kw_2_14) (fun _ h9 => h9) rfl dX6_write_60 ?_
            refine lv_iload_n hx hb dX6_write_63 rfl (lv_at hl1 3 rfl) ?_
            refine ald_l (f := f 1) hx hb hK hP1 8 1 rfl rfl j rfl (by first | omega | assumption) (by decide) dX6_write_64 ?_
            refine lv_lstore (lv' := [(6, .long ((f 1) j)), (5, .ref (qq 2)), (0, .ref (hh 0)), (1, .int 1), (2, .int (nI j)), (3, .long x3)]) hx hb dX6_write_65 hl1 (by decide) rfl (fun ls2 hl2 => ?_)
            clear hl1 ls1
            refine lv_aload hx hb dX6_write_67 (lv_at hl2 1 rfl) ?_
            refine lv_iload_n hx hb dX6_write_69 rfl (lv_at hl2 4 rfl) ?_
            refine lv_lload_n hx hb dX6_write_70 rfl (lv_at hl2 5 rfl) ?_
            refine cV_v (wc := [hO cy (qq 2) (qq 6) (bi 1) (si 1), la cy (qq 6) 40 (f 1)]) (wr := [sO cy hh a kk dd b w ee qq ik, ia cy (hh 1) 7 C, qsB cy qq, hO cy (qq 1) (qq 5) (bi 0) (si 0), hO cy (qq 3) (qq 7) (bi 2) (si 2), hO cy (qq 4) (qq 8) (bi 3) (si 3), la cy (qq 5) 40 (f 0), la cy (qq 7) 40 (f 2), la cy (qq 8) 40 (f 3)]) (rest := []) hx hb hml hown hw hG hK hP1 hD1 hS1 hA hl2 kc_X2_put kw_3_132 [.int (nI j), .long x3] (c_X2_put l D cy G H1.size (qq 2) (qq 6) (bi 1) (si 1) (f 1) (bstN (si 1)) j x3 ((hso 1 (by decide)).1) hj hq1) [4, 8] [0, 1, 2, 3, 5, 6, 7, 9, 10] rfl rfl rfl rfl rfl 0 rfl rfl rfl rfl rfl (Nat.le_of_ble_eq_true rfl) ⟨Nat.le_of_ble_eq_true rfl, Nat.le_of_ble_eq_true rfl⟩ dX6_write_71 ⟨Nat.le_of_ble_eq_true rfl, Nat.le_of_ble_eq_true rfl⟩ (fun u9 H2 locs2 hu9 hP2 hD2 hS2 => ?_)
            clear hP1 hD1 hS1 locs1 H1
            replace hP2 : va_P D vwCl ([sO cy hh a kk dd b w ee qq ik, ia cy (hh 1) 7 C, qsB cy qq, hO cy (qq 1) (qq 5) (bi 0) (si 0), hO cy (qq 3) (qq 7) (bi 2) (si 2), hO cy (qq 4) (qq 8) (bi 3) (si 3), la cy (qq 5) 40 (f 0), la cy (qq 7) 40 (f 2), la cy (qq 8) 40 (f 3), hO cy (qq 2) (qq 6) (bi 1) (si 1), la cy (qq 6) 40 (vp_updL (f 1) j (nrw (bi 1) x3))]) H2 := hP2
            replace hD2 : va_D (va_A _ sz) ([sO cy hh a kk dd b w ee qq ik, ia cy (hh 1) 7 C, qsB cy qq, hO cy (qq 1) (qq 5) (bi 0) (si 0), hO cy (qq 3) (qq 7) (bi 2) (si 2), hO cy (qq 4) (qq 8) (bi 3) (si 3), la cy (qq 5) 40 (f 0), la cy (qq 7) 40 (f 2), la cy (qq 8) 40 (f 3), hO cy (qq 2) (qq 6) (bi 1) (si 1), la cy (qq 6) 40 (vp_updL (f 1) j (nrw (bi 1) x3))]) := hD2
            replace hP2 := hP2.sub (ws' := [sO cy hh a kk dd b w ee qq ik, ia cy (hh 1) 7 C, qsB cy qq, hO cy (qq 1) (qq 5) (bi 0) (si 0), hO cy (qq 2) (qq 6) (bi 1) (si 1), hO cy (qq 3) (qq 7) (bi 2) (si 2), hO cy (qq 4) (qq 8) (bi 3) (si 3), la cy (qq 5) 40 (f 0), la cy (qq 6) 40 (vp_updL (f 1) j (nrw (bi 1) x3)), la cy (qq 7) 40 (f 2), la cy (qq 8) 40 (f 3)]) [0, 1, 2, 3, 9, 4, 5, 6, 10, 7, 8] rfl
            replace hD2 := hD2.sub (ws' := [sO cy hh a kk dd b w ee qq ik, ia cy (hh 1) 7 C, qsB cy qq, hO cy (qq 1) (qq 5) (bi 0) (si 0), hO cy (qq 2) (qq 6) (bi 1) (si 1), hO cy (qq 3) (qq 7) (bi 2) (si 2), hO cy (qq 4) (qq 8) (bi 3) (si 3), la cy (qq 5) 40 (f 0), la cy (qq 6) 40 (vp_updL (f 1) j (nrw (bi 1) x3)), la cy (qq 7) 40 (f 2), la cy (qq 8) 40 (f 3)]) [0, 1, 2, 3, 9, 4, 5, 6, 10, 7, 8] (by decide) rfl
            refine lv_lload hx hb dX6_write_74 (lv_at hl2 0 rfl) ?_
            replace hP2 : va_P D vwCl ([sO cy hh a kk dd b w ee qq ik, ia cy (hh 1) 7 C] ++ (shB cy qq bi si (va_up f 1 (vp_updL (f 1) j (nrw (bi 1) x3))))) H2 := hP2
            replace hD2 : va_D (va_A _ sz) ([sO cy hh a kk dd b w ee qq ik, ia cy (hh 1) 7 C] ++ (shB cy qq bi si (va_up f 1 (vp_updL (f 1) j (nrw (bi 1) x3))))) := hD2
            have hcd : cWrite bi si 1 (nI j) = 7 := by unfold cWrite; clear hx hb hml hown hr hlocks hw hsz hA hG hK hP2 hD2 hS2 hl2; grind
            have hq9 : ([sO cy hh a kk dd b w ee qq ik, ia cy (hh 1) 7 C] ++ (shB cy qq bi si (va_up f 1 (vp_updL (f 1) j (nrw (bi 1) x3))))) = ([sO cy hh a kk dd b w ee qq ik, ia cy (hh 1) 7 (fnd C (cWrite bi si 1 (nI j)))] ++ (shB cy qq bi si (va_up f 1 (vp_updL (f 1) j (nrw (bi 1) x3))))) := congrArg (fun z9 => [sO cy hh a kk dd b w ee qq ik, ia cy (hh 1) 7 z9] ++ (shB cy qq bi si (va_up f 1 (vp_updL (f 1) j (nrw (bi 1) x3))))) (show C = (fnd C (cWrite bi si 1 (nI j))) from fnd_o hcd)
            replace hP2 := (congrArg (fun z9 => va_P D vwCl z9 _) hq9).mp hP2
            replace hD2 := (congrArg (fun z9 => va_D _ z9) hq9).mp hD2
            clear hq9
            have hq9 : ([sO cy hh a kk dd b w ee qq ik, ia cy (hh 1) 7 (fnd C (cWrite bi si 1 (nI j)))] ++ (shB cy qq bi si (va_up f 1 (vp_updL (f 1) j (nrw (bi 1) x3))))) = ([sO cy hh a kk dd b w ee qq ik, ia cy (hh 1) 7 (fnd C (cWrite bi si 1 (nI j)))] ++ (shB cy qq bi si (if cWrite bi si 1 (nI j) = 7 then va_up f (bstN 1) (vp_updL (f (bstN 1)) (bstN (nI j)) (nrw (bi (bstN 1)) x3)) else f))) := congrArg (fun z9 => [sO cy hh a kk dd b w ee qq ik, ia cy (hh 1) 7 (fnd C (cWrite bi si 1 (nI j)))] ++ (shB cy qq bi si z9)) (show (va_up f 1 (vp_updL (f 1) j (nrw (bi 1) x3))) = (if cWrite bi si 1 (nI j) = 7 then va_up f (bstN 1) (vp_updL (f (bstN 1)) (bstN (nI j)) (nrw (bi (bstN 1)) x3)) else f) from by rw [if_pos hcd]; simp only [hbj, hb0, hb1, hb2, hb3])
            replace hP2 := (congrArg (fun z9 => va_P D vwCl z9 _) hq9).mp hP2
            replace hD2 := (congrArg (fun z9 => va_D _ z9) hq9).mp hD2
            clear hq9
            refine re_l () hx hb hr hlocks hP2 hD2 hS2 dX6_write_76 ?_
            exact (ansL_o hcd (by rw [hbj]; simp only [hb0, hb1, hb2, hb3]))
          · replace hP1 : va_P D vwCl ([sO cy hh a kk dd b w ee qq ik, ia cy (hh 1) 7 C] ++ (shB cy qq bi si f)) H1 := hP1
            replace hD1 : va_D (va_A _ sz) ([sO cy hh a kk dd b w ee qq ik, ia cy (hh 1) 7 C] ++ (shB cy qq bi si f)) := hD1
            refine lv_aload_n hx hb dX6_write_51 rfl (lv_at hl1 1 rfl) ?_
            refine lv_iconst (v := 0) hx hb dX6_write_52 (by decide) ?_
            refine cV_i (wc := [sO cy hh a kk dd b w ee qq ik, ia cy (hh 1) 7 C]) (wr := shB cy qq bi si f) (rest := []) hx hb hml hown hw hG hK hP1 hD1 hS1 hA hl1 kc_X6_find kw_2_59 [.int 0] (c_X6_find l D cy G H1.size hh a kk dd b w ee qq ik C 0 (by first | omega | assumption)) [0, 1] [2, 3, 4, 5, 6, 7, 8, 9, 10] rfl rfl rfl rfl rfl 0 rfl rfl rfl rfl rfl (Nat.le_of_ble_eq_true rfl) ⟨Nat.le_of_ble_eq_true rfl, Nat.le_of_ble_eq_true rfl⟩ dX6_write_53 ⟨Nat.le_of_ble_eq_true rfl, Nat.le_of_ble_eq_true rfl⟩ (fun r_53 u9 H2 locs2 hu9 hP2 hD2 hS2 => ?_)
            clear hP1 hD1 hS1 locs1 H1
            have hr_53 := hu9
            replace hP2 : va_P D vwCl (shB cy qq bi si f ++ ([sO cy hh a kk dd b w ee qq ik, ia cy (hh 1) 7 (upd C 0 (C 0 + 1))])) H2 := hP2
            replace hD2 : va_D (va_A _ sz) (shB cy qq bi si f ++ ([sO cy hh a kk dd b w ee qq ik, ia cy (hh 1) 7 (upd C 0 (C 0 + 1))])) := hD2
            replace hP2 := hP2.sub (ws' := [sO cy hh a kk dd b w ee qq ik, ia cy (hh 1) 7 (upd C 0 (C 0 + 1))] ++ (shB cy qq bi si f)) [9, 10, 0, 1, 2, 3, 4, 5, 6, 7, 8] rfl
            replace hD2 := hD2.sub (ws' := [sO cy hh a kk dd b w ee qq ik, ia cy (hh 1) 7 (upd C 0 (C 0 + 1))] ++ (shB cy qq bi si f)) [9, 10, 0, 1, 2, 3, 4, 5, 6, 7, 8] (by decide) rfl
            subst hr_53
            refine lv_i2l hx hb dX6_write_56 rfl ?_
            have hcd : cWrite bi si 1 x2 = 0 := by unfold cWrite; clear hx hb hml hown hr hlocks hw hsz hA hG hK hP2 hD2 hS2 hl1; grind
            have hq9 : ([sO cy hh a kk dd b w ee qq ik, ia cy (hh 1) 7 (upd C 0 (C 0 + 1))] ++ (shB cy qq bi si f)) = ([sO cy hh a kk dd b w ee qq ik, ia cy (hh 1) 7 (fnd C (cWrite bi si 1 x2))] ++ (shB cy qq bi si f)) := congrArg (fun z9 => [sO cy hh a kk dd b w ee qq ik, ia cy (hh 1) 7 z9] ++ (shB cy qq bi si f)) (show (upd C 0 (C 0 + 1)) = (fnd C (cWrite bi si 1 x2)) from fnd_f hcd (by decide))
            replace hP2 := (congrArg (fun z9 => va_P D vwCl z9 _) hq9).mp hP2
            replace hD2 := (congrArg (fun z9 => va_D _ z9) hq9).mp hD2
            clear hq9
            have hq9 : ([sO cy hh a kk dd b w ee qq ik, ia cy (hh 1) 7 (fnd C (cWrite bi si 1 x2))] ++ (shB cy qq bi si f)) = ([sO cy hh a kk dd b w ee qq ik, ia cy (hh 1) 7 (fnd C (cWrite bi si 1 x2))] ++ (shB cy qq bi si (if cWrite bi si 1 x2 = 7 then va_up f (bstN 1) (vp_updL (f (bstN 1)) (bstN x2) (nrw (bi (bstN 1)) x3)) else f))) := congrArg (fun z9 => [sO cy hh a kk dd b w ee qq ik, ia cy (hh 1) 7 (fnd C (cWrite bi si 1 x2))] ++ (shB cy qq bi si z9)) (show f = (if cWrite bi si 1 x2 = 7 then va_up f (bstN 1) (vp_updL (f (bstN 1)) (bstN x2) (nrw (bi (bstN 1)) x3)) else f) from (if_neg (fun z9 => absurd (hcd.symm.trans z9) (by decide))).symm)
            replace hP2 := (congrArg (fun z9 => va_P D vwCl z9 _) hq9).mp hP2
            replace hD2 := (congrArg (fun z9 => va_D _ z9) hq9).mp hD2
            clear hq9
            refine re_l () hx hb hr hlocks hP2 hD2 hS2 dX6_write_57 ?_
            exact (ansL_f hcd (by decide) rfl)
      · replace hP1 : va_P D vwCl ([sO cy hh a kk dd b w ee qq ik, ia cy (hh 1) 7 C] ++ (shB cy qq bi si f)) H1 := hP1
        replace hD1 : va_D (va_A _ sz) ([sO cy hh a kk dd b w ee qq ik, ia cy (hh 1) 7 C] ++ (shB cy qq bi si f)) := hD1
        refine lv_aload_n hx hb dX6_write_31 rfl (lv_at hl1 1 rfl) ?_
        refine lv_iconst (v := 5) hx hb dX6_write_32 (by decide) ?_
        refine cV_i (wc := [sO cy hh a kk dd b w ee qq ik, ia cy (hh 1) 7 C]) (wr := shB cy qq bi si f) (rest := []) hx hb hml hown hw hG hK hP1 hD1 hS1 hA hl1 kc_X6_find kw_2_59 [.int 5] (c_X6_find l D cy G H1.size hh a kk dd b w ee qq ik C 5 (by first | omega | assumption)) [0, 1] [2, 3, 4, 5, 6, 7, 8, 9, 10] rfl rfl rfl rfl rfl 0 rfl rfl rfl rfl rfl (Nat.le_of_ble_eq_true rfl) ⟨Nat.le_of_ble_eq_true rfl, Nat.le_of_ble_eq_true rfl⟩ dX6_write_33 ⟨Nat.le_of_ble_eq_true rfl, Nat.le_of_ble_eq_true rfl⟩ (fun r_33 u9 H2 locs2 hu9 hP2 hD2 hS2 => ?_)
        clear hP1 hD1 hS1 locs1 H1
        have hr_33 := hu9
        replace hP2 : va_P D vwCl (shB cy qq bi si f ++ ([sO cy hh a kk dd b w ee qq ik, ia cy (hh 1) 7 (upd C 5 (C 5 + 1))])) H2 := hP2
        replace hD2 : va_D (va_A _ sz) (shB cy qq bi si f ++ ([sO cy hh a kk dd b w ee qq ik, ia cy (hh 1) 7 (upd C 5 (C 5 + 1))])) := hD2
        replace hP2 := hP2.sub (ws' := [sO cy hh a kk dd b w ee qq ik, ia cy (hh 1) 7 (upd C 5 (C 5 + 1))] ++ (shB cy qq bi si f)) [9, 10, 0, 1, 2, 3, 4, 5, 6, 7, 8] rfl
        replace hD2 := hD2.sub (ws' := [sO cy hh a kk dd b w ee qq ik, ia cy (hh 1) 7 (upd C 5 (C 5 + 1))] ++ (shB cy qq bi si f)) [9, 10, 0, 1, 2, 3, 4, 5, 6, 7, 8] (by decide) rfl
        subst hr_33
        refine lv_i2l hx hb dX6_write_36 rfl ?_
        have hcd : cWrite bi si 1 x2 = 5 := by unfold cWrite; clear hx hb hml hown hr hlocks hw hsz hA hG hK hP2 hD2 hS2 hl1; grind
        have hq9 : ([sO cy hh a kk dd b w ee qq ik, ia cy (hh 1) 7 (upd C 5 (C 5 + 1))] ++ (shB cy qq bi si f)) = ([sO cy hh a kk dd b w ee qq ik, ia cy (hh 1) 7 (fnd C (cWrite bi si 1 x2))] ++ (shB cy qq bi si f)) := congrArg (fun z9 => [sO cy hh a kk dd b w ee qq ik, ia cy (hh 1) 7 z9] ++ (shB cy qq bi si f)) (show (upd C 5 (C 5 + 1)) = (fnd C (cWrite bi si 1 x2)) from fnd_f hcd (by decide))
        replace hP2 := (congrArg (fun z9 => va_P D vwCl z9 _) hq9).mp hP2
        replace hD2 := (congrArg (fun z9 => va_D _ z9) hq9).mp hD2
        clear hq9
        have hq9 : ([sO cy hh a kk dd b w ee qq ik, ia cy (hh 1) 7 (fnd C (cWrite bi si 1 x2))] ++ (shB cy qq bi si f)) = ([sO cy hh a kk dd b w ee qq ik, ia cy (hh 1) 7 (fnd C (cWrite bi si 1 x2))] ++ (shB cy qq bi si (if cWrite bi si 1 x2 = 7 then va_up f (bstN 1) (vp_updL (f (bstN 1)) (bstN x2) (nrw (bi (bstN 1)) x3)) else f))) := congrArg (fun z9 => [sO cy hh a kk dd b w ee qq ik, ia cy (hh 1) 7 (fnd C (cWrite bi si 1 x2))] ++ (shB cy qq bi si z9)) (show f = (if cWrite bi si 1 x2 = 7 then va_up f (bstN 1) (vp_updL (f (bstN 1)) (bstN x2) (nrw (bi (bstN 1)) x3)) else f) from (if_neg (fun z9 => absurd (hcd.symm.trans z9) (by decide))).symm)
        replace hP2 := (congrArg (fun z9 => va_P D vwCl z9 _) hq9).mp hP2
        replace hD2 := (congrArg (fun z9 => va_D _ z9) hq9).mp hD2
        clear hq9
        refine re_l () hx hb hr hlocks hP2 hD2 hS2 dX6_write_37 ?_
        exact (ansL_f hcd (by decide) rfl)
    · replace hP1 : va_P D vwCl ([sO cy hh a kk dd b w ee qq ik, ia cy (hh 1) 7 C, qsB cy qq, hO cy (qq 1) (qq 5) (bi 0) (si 0), hO cy (qq 2) (qq 6) (bi 1) (si 1), hO cy (qq 3) (qq 7) (bi 2) (si 2), hO cy (qq 4) (qq 8) (bi 3) (si 3), la cy (qq 5) 40 (f 0), la cy (qq 6) 40 (f 1), la cy (qq 7) 40 (f 2), la cy (qq 8) 40 (f 3)]) H1 := hP1
      replace hD1 : va_D (va_A _ sz) ([sO cy hh a kk dd b w ee qq ik, ia cy (hh 1) 7 C, qsB cy qq, hO cy (qq 1) (qq 5) (bi 0) (si 0), hO cy (qq 2) (qq 6) (bi 1) (si 1), hO cy (qq 3) (qq 7) (bi 2) (si 2), hO cy (qq 4) (qq 8) (bi 3) (si 3), la cy (qq 5) 40 (f 0), la cy (qq 6) 40 (f 1), la cy (qq 7) 40 (f 2), la cy (qq 8) 40 (f 3)]) := hD1
      refine lv_aload_n hx hb dX6_write_15 rfl (lv_at hl0 0 rfl) ?_
      refine va_get (D := D) (ci := 6) (v := .ref (qq 0)) (C := RX6) (T := TX6) (N := 9) hx hb hw iX6 hown hK hP1 0 rfl rfl 7 (by decide) (hw _ kw_2_34) (fun _ h9 => h9) rfl dX6_write_16 ?_
      refine lv_iload_n hx hb dX6_write_19 rfl (lv_at hl0 1 rfl) ?_
      refine ald_q hx hb hK hP1 2 3 rfl rfl rfl 2 rfl (by first | omega | assumption) (by decide) (rfl) dX6_write_20 ?_
      refine lv_astore (lv' := [(5, .ref (qq 3)), (0, .ref (hh 0)), (1, .int 2), (2, .int x2), (3, .long x3)]) hx hb dX6_write_21 hl0 (by decide) rfl (fun ls1 hl1 => ?_)
      clear hl0 ls0
      refine lv_aload hx hb dX6_write_23 (lv_at hl1 0 rfl) ?_
      refine va_get (D := D) (ci := 2) (v := .int (bi 2)) (C := RX2) (T := TX2) (N := 3) hx hb hw iX2 hown hK hP1 5 rfl rfl 1 (by decide) (hw _ kw_2_16) (fun _ h9 => h9) rfl dX6_write_25 ?_
      refine lv_if_ne (tgt := 38) hx hb dX6_write_28 (by decide) (fun c_28 => ?_) (fun c_28 => ?_)
      · refine lv_iload_n hx hb dX6_write_38 rfl (lv_at hl1 3 rfl) ?_
        refine lv_if_lt (tgt := 51) hx hb dX6_write_39 (by decide) (fun c_39 => ?_) (fun c_39 => ?_)
        · replace hP1 : va_P D vwCl ([sO cy hh a kk dd b w ee qq ik, ia cy (hh 1) 7 C] ++ (shB cy qq bi si f)) H1 := hP1
          replace hD1 : va_D (va_A _ sz) ([sO cy hh a kk dd b w ee qq ik, ia cy (hh 1) 7 C] ++ (shB cy qq bi si f)) := hD1
          refine lv_aload_n hx hb dX6_write_51 rfl (lv_at hl1 1 rfl) ?_
          refine lv_iconst (v := 0) hx hb dX6_write_52 (by decide) ?_
          refine cV_i (wc := [sO cy hh a kk dd b w ee qq ik, ia cy (hh 1) 7 C]) (wr := shB cy qq bi si f) (rest := []) hx hb hml hown hw hG hK hP1 hD1 hS1 hA hl1 kc_X6_find kw_2_59 [.int 0] (c_X6_find l D cy G H1.size hh a kk dd b w ee qq ik C 0 (by first | omega | assumption)) [0, 1] [2, 3, 4, 5, 6, 7, 8, 9, 10] rfl rfl rfl rfl rfl 0 rfl rfl rfl rfl rfl (Nat.le_of_ble_eq_true rfl) ⟨Nat.le_of_ble_eq_true rfl, Nat.le_of_ble_eq_true rfl⟩ dX6_write_53 ⟨Nat.le_of_ble_eq_true rfl, Nat.le_of_ble_eq_true rfl⟩ (fun r_53 u9 H2 locs2 hu9 hP2 hD2 hS2 => ?_)
          clear hP1 hD1 hS1 locs1 H1
          have hr_53 := hu9
          replace hP2 : va_P D vwCl (shB cy qq bi si f ++ ([sO cy hh a kk dd b w ee qq ik, ia cy (hh 1) 7 (upd C 0 (C 0 + 1))])) H2 := hP2
          replace hD2 : va_D (va_A _ sz) (shB cy qq bi si f ++ ([sO cy hh a kk dd b w ee qq ik, ia cy (hh 1) 7 (upd C 0 (C 0 + 1))])) := hD2
          replace hP2 := hP2.sub (ws' := [sO cy hh a kk dd b w ee qq ik, ia cy (hh 1) 7 (upd C 0 (C 0 + 1))] ++ (shB cy qq bi si f)) [9, 10, 0, 1, 2, 3, 4, 5, 6, 7, 8] rfl
          replace hD2 := hD2.sub (ws' := [sO cy hh a kk dd b w ee qq ik, ia cy (hh 1) 7 (upd C 0 (C 0 + 1))] ++ (shB cy qq bi si f)) [9, 10, 0, 1, 2, 3, 4, 5, 6, 7, 8] (by decide) rfl
          subst hr_53
          refine lv_i2l hx hb dX6_write_56 rfl ?_
          have hcd : cWrite bi si 2 x2 = 0 := by unfold cWrite; clear hx hb hml hown hr hlocks hw hsz hA hG hK hP2 hD2 hS2 hl1; grind
          have hq9 : ([sO cy hh a kk dd b w ee qq ik, ia cy (hh 1) 7 (upd C 0 (C 0 + 1))] ++ (shB cy qq bi si f)) = ([sO cy hh a kk dd b w ee qq ik, ia cy (hh 1) 7 (fnd C (cWrite bi si 2 x2))] ++ (shB cy qq bi si f)) := congrArg (fun z9 => [sO cy hh a kk dd b w ee qq ik, ia cy (hh 1) 7 z9] ++ (shB cy qq bi si f)) (show (upd C 0 (C 0 + 1)) = (fnd C (cWrite bi si 2 x2)) from fnd_f hcd (by decide))
          replace hP2 := (congrArg (fun z9 => va_P D vwCl z9 _) hq9).mp hP2
          replace hD2 := (congrArg (fun z9 => va_D _ z9) hq9).mp hD2
          clear hq9
          have hq9 : ([sO cy hh a kk dd b w ee qq ik, ia cy (hh 1) 7 (fnd C (cWrite bi si 2 x2))] ++ (shB cy qq bi si f)) = ([sO cy hh a kk dd b w ee qq ik, ia cy (hh 1) 7 (fnd C (cWrite bi si 2 x2))] ++ (shB cy qq bi si (if cWrite bi si 2 x2 = 7 then va_up f (bstN 2) (vp_updL (f (bstN 2)) (bstN x2) (nrw (bi (bstN 2)) x3)) else f))) := congrArg (fun z9 => [sO cy hh a kk dd b w ee qq ik, ia cy (hh 1) 7 (fnd C (cWrite bi si 2 x2))] ++ (shB cy qq bi si z9)) (show f = (if cWrite bi si 2 x2 = 7 then va_up f (bstN 2) (vp_updL (f (bstN 2)) (bstN x2) (nrw (bi (bstN 2)) x3)) else f) from (if_neg (fun z9 => absurd (hcd.symm.trans z9) (by decide))).symm)
          replace hP2 := (congrArg (fun z9 => va_P D vwCl z9 _) hq9).mp hP2
          replace hD2 := (congrArg (fun z9 => va_D _ z9) hq9).mp hD2
          clear hq9
          refine re_l () hx hb hr hlocks hP2 hD2 hS2 dX6_write_57 ?_
          exact (ansL_f hcd (by decide) rfl)
        · refine lv_iload_n hx hb dX6_write_42 rfl (lv_at hl1 3 rfl) ?_
          refine lv_aload hx hb dX6_write_43 (lv_at hl1 0 rfl) ?_
          refine va_get (D := D) (ci := 2) (v := .int (si 2)) (C := RX2) (T := TX2) (N := 3) hx hb hw iX2 hown hK hP1 5 rfl rfl 2 (by decide) (hw _ kw_2_18) (fun _ h9 => h9) rfl dX6_write_45 ?_
          refine tp (show (si 2) = nI (bstN (si 2)) from (hso 2 (by decide)).1) ?_
          refine lv_icmp_lt (tgt := 58) hx hb dX6_write_48 (by decide) (fun c_48 => ?_) (fun c_48 => ?_)
          · obtain ⟨j, hj, rfl⟩ := nI_rn (n := bstN (si 2)) (by omega) (x := x2) ⟨Int32.not_lt.mp c_39, c_48⟩
            have hbj : bstN (nI j) = j := bst_n (by omega)
            refine lv_aload hx hb dX6_write_58 (lv_at hl1 0 rfl) ?_
            refine va_get (D := D) (ci := 2) (v := .ref (qq 7)) (C := RX2) (T := TX2) (N := 3) hx hb hw iX2 hown hK hP1 5 rfl rfl 0 (by decide) (hw _ kw_2_14) (fun _ h9 => h9) rfl dX6_write_60 ?_
            refine lv_iload_n hx hb dX6_write_63 rfl (lv_at hl1 3 rfl) ?_
            refine ald_l (f := f 2) hx hb hK hP1 9 1 rfl rfl j rfl (by first | omega | assumption) (by decide) dX6_write_64 ?_
            refine lv_lstore (lv' := [(6, .long ((f 2) j)), (5, .ref (qq 3)), (0, .ref (hh 0)), (1, .int 2), (2, .int (nI j)), (3, .long x3)]) hx hb dX6_write_65 hl1 (by decide) rfl (fun ls2 hl2 => ?_)
            clear hl1 ls1
            refine lv_aload hx hb dX6_write_67 (lv_at hl2 1 rfl) ?_
            refine lv_iload_n hx hb dX6_write_69 rfl (lv_at hl2 4 rfl) ?_
            refine lv_lload_n hx hb dX6_write_70 rfl (lv_at hl2 5 rfl) ?_
            refine cV_v (wc := [hO cy (qq 3) (qq 7) (bi 2) (si 2), la cy (qq 7) 40 (f 2)]) (wr := [sO cy hh a kk dd b w ee qq ik, ia cy (hh 1) 7 C, qsB cy qq, hO cy (qq 1) (qq 5) (bi 0) (si 0), hO cy (qq 2) (qq 6) (bi 1) (si 1), hO cy (qq 4) (qq 8) (bi 3) (si 3), la cy (qq 5) 40 (f 0), la cy (qq 6) 40 (f 1), la cy (qq 8) 40 (f 3)]) (rest := []) hx hb hml hown hw hG hK hP1 hD1 hS1 hA hl2 kc_X2_put kw_3_132 [.int (nI j), .long x3] (c_X2_put l D cy G H1.size (qq 3) (qq 7) (bi 2) (si 2) (f 2) (bstN (si 2)) j x3 ((hso 2 (by decide)).1) hj hq2) [5, 9] [0, 1, 2, 3, 4, 6, 7, 8, 10] rfl rfl rfl rfl rfl 0 rfl rfl rfl rfl rfl (Nat.le_of_ble_eq_true rfl) ⟨Nat.le_of_ble_eq_true rfl, Nat.le_of_ble_eq_true rfl⟩ dX6_write_71 ⟨Nat.le_of_ble_eq_true rfl, Nat.le_of_ble_eq_true rfl⟩ (fun u9 H2 locs2 hu9 hP2 hD2 hS2 => ?_)
            clear hP1 hD1 hS1 locs1 H1
            replace hP2 : va_P D vwCl ([sO cy hh a kk dd b w ee qq ik, ia cy (hh 1) 7 C, qsB cy qq, hO cy (qq 1) (qq 5) (bi 0) (si 0), hO cy (qq 2) (qq 6) (bi 1) (si 1), hO cy (qq 4) (qq 8) (bi 3) (si 3), la cy (qq 5) 40 (f 0), la cy (qq 6) 40 (f 1), la cy (qq 8) 40 (f 3), hO cy (qq 3) (qq 7) (bi 2) (si 2), la cy (qq 7) 40 (vp_updL (f 2) j (nrw (bi 2) x3))]) H2 := hP2
            replace hD2 : va_D (va_A _ sz) ([sO cy hh a kk dd b w ee qq ik, ia cy (hh 1) 7 C, qsB cy qq, hO cy (qq 1) (qq 5) (bi 0) (si 0), hO cy (qq 2) (qq 6) (bi 1) (si 1), hO cy (qq 4) (qq 8) (bi 3) (si 3), la cy (qq 5) 40 (f 0), la cy (qq 6) 40 (f 1), la cy (qq 8) 40 (f 3), hO cy (qq 3) (qq 7) (bi 2) (si 2), la cy (qq 7) 40 (vp_updL (f 2) j (nrw (bi 2) x3))]) := hD2
            replace hP2 := hP2.sub (ws' := [sO cy hh a kk dd b w ee qq ik, ia cy (hh 1) 7 C, qsB cy qq, hO cy (qq 1) (qq 5) (bi 0) (si 0), hO cy (qq 2) (qq 6) (bi 1) (si 1), hO cy (qq 3) (qq 7) (bi 2) (si 2), hO cy (qq 4) (qq 8) (bi 3) (si 3), la cy (qq 5) 40 (f 0), la cy (qq 6) 40 (f 1), la cy (qq 7) 40 (vp_updL (f 2) j (nrw (bi 2) x3)), la cy (qq 8) 40 (f 3)]) [0, 1, 2, 3, 4, 9, 5, 6, 7, 10, 8] rfl
            replace hD2 := hD2.sub (ws' := [sO cy hh a kk dd b w ee qq ik, ia cy (hh 1) 7 C, qsB cy qq, hO cy (qq 1) (qq 5) (bi 0) (si 0), hO cy (qq 2) (qq 6) (bi 1) (si 1), hO cy (qq 3) (qq 7) (bi 2) (si 2), hO cy (qq 4) (qq 8) (bi 3) (si 3), la cy (qq 5) 40 (f 0), la cy (qq 6) 40 (f 1), la cy (qq 7) 40 (vp_updL (f 2) j (nrw (bi 2) x3)), la cy (qq 8) 40 (f 3)]) [0, 1, 2, 3, 4, 9, 5, 6, 7, 10, 8] (by decide) rfl
            refine lv_lload hx hb dX6_write_74 (lv_at hl2 0 rfl) ?_
            replace hP2 : va_P D vwCl ([sO cy hh a kk dd b w ee qq ik, ia cy (hh 1) 7 C] ++ (shB cy qq bi si (va_up f 2 (vp_updL (f 2) j (nrw (bi 2) x3))))) H2 := hP2
            replace hD2 : va_D (va_A _ sz) ([sO cy hh a kk dd b w ee qq ik, ia cy (hh 1) 7 C] ++ (shB cy qq bi si (va_up f 2 (vp_updL (f 2) j (nrw (bi 2) x3))))) := hD2
            have hcd : cWrite bi si 2 (nI j) = 7 := by unfold cWrite; clear hx hb hml hown hr hlocks hw hsz hA hG hK hP2 hD2 hS2 hl2; grind
            have hq9 : ([sO cy hh a kk dd b w ee qq ik, ia cy (hh 1) 7 C] ++ (shB cy qq bi si (va_up f 2 (vp_updL (f 2) j (nrw (bi 2) x3))))) = ([sO cy hh a kk dd b w ee qq ik, ia cy (hh 1) 7 (fnd C (cWrite bi si 2 (nI j)))] ++ (shB cy qq bi si (va_up f 2 (vp_updL (f 2) j (nrw (bi 2) x3))))) := congrArg (fun z9 => [sO cy hh a kk dd b w ee qq ik, ia cy (hh 1) 7 z9] ++ (shB cy qq bi si (va_up f 2 (vp_updL (f 2) j (nrw (bi 2) x3))))) (show C = (fnd C (cWrite bi si 2 (nI j))) from fnd_o hcd)
            replace hP2 := (congrArg (fun z9 => va_P D vwCl z9 _) hq9).mp hP2
            replace hD2 := (congrArg (fun z9 => va_D _ z9) hq9).mp hD2
            clear hq9
            have hq9 : ([sO cy hh a kk dd b w ee qq ik, ia cy (hh 1) 7 (fnd C (cWrite bi si 2 (nI j)))] ++ (shB cy qq bi si (va_up f 2 (vp_updL (f 2) j (nrw (bi 2) x3))))) = ([sO cy hh a kk dd b w ee qq ik, ia cy (hh 1) 7 (fnd C (cWrite bi si 2 (nI j)))] ++ (shB cy qq bi si (if cWrite bi si 2 (nI j) = 7 then va_up f (bstN 2) (vp_updL (f (bstN 2)) (bstN (nI j)) (nrw (bi (bstN 2)) x3)) else f))) := congrArg (fun z9 => [sO cy hh a kk dd b w ee qq ik, ia cy (hh 1) 7 (fnd C (cWrite bi si 2 (nI j)))] ++ (shB cy qq bi si z9)) (show (va_up f 2 (vp_updL (f 2) j (nrw (bi 2) x3))) = (if cWrite bi si 2 (nI j) = 7 then va_up f (bstN 2) (vp_updL (f (bstN 2)) (bstN (nI j)) (nrw (bi (bstN 2)) x3)) else f) from by rw [if_pos hcd]; simp only [hbj, hb0, hb1, hb2, hb3])
            replace hP2 := (congrArg (fun z9 => va_P D vwCl z9 _) hq9).mp hP2
            replace hD2 := (congrArg (fun z9 => va_D _ z9) hq9).mp hD2
            clear hq9
            refine re_l () hx hb hr hlocks hP2 hD2 hS2 dX6_write_76 ?_
            exact (ansL_o hcd (by rw [hbj]; simp only [hb0, hb1, hb2, hb3]))
          · replace hP1 : va_P D vwCl ([sO cy hh a kk dd b w ee qq ik, ia cy (hh 1) 7 C] ++ (shB cy qq bi si f)) H1 := hP1
            replace hD1 : va_D (va_A _ sz) ([sO cy hh a kk dd b w ee qq ik, ia cy (hh 1) 7 C] ++ (shB cy qq bi si f)) := hD1
            refine lv_aload_n hx hb dX6_write_51 rfl (lv_at hl1 1 rfl) ?_
            refine lv_iconst (v := 0) hx hb dX6_write_52 (by decide) ?_
            refine cV_i (wc := [sO cy hh a kk dd b w ee qq ik, ia cy (hh 1) 7 C]) (wr := shB cy qq bi si f) (rest := []) hx hb hml hown hw hG hK hP1 hD1 hS1 hA hl1 kc_X6_find kw_2_59 [.int 0] (c_X6_find l D cy G H1.size hh a kk dd b w ee qq ik C 0 (by first | omega | assumption)) [0, 1] [2, 3, 4, 5, 6, 7, 8, 9, 10] rfl rfl rfl rfl rfl 0 rfl rfl rfl rfl rfl (Nat.le_of_ble_eq_true rfl) ⟨Nat.le_of_ble_eq_true rfl, Nat.le_of_ble_eq_true rfl⟩ dX6_write_53 ⟨Nat.le_of_ble_eq_true rfl, Nat.le_of_ble_eq_true rfl⟩ (fun r_53 u9 H2 locs2 hu9 hP2 hD2 hS2 => ?_)
            clear hP1 hD1 hS1 locs1 H1
            have hr_53 := hu9
            replace hP2 : va_P D vwCl (shB cy qq bi si f ++ ([sO cy hh a kk dd b w ee qq ik, ia cy (hh 1) 7 (upd C 0 (C 0 + 1))])) H2 := hP2
            replace hD2 : va_D (va_A _ sz) (shB cy qq bi si f ++ ([sO cy hh a kk dd b w ee qq ik, ia cy (hh 1) 7 (upd C 0 (C 0 + 1))])) := hD2
            replace hP2 := hP2.sub (ws' := [sO cy hh a kk dd b w ee qq ik, ia cy (hh 1) 7 (upd C 0 (C 0 + 1))] ++ (shB cy qq bi si f)) [9, 10, 0, 1, 2, 3, 4, 5, 6, 7, 8] rfl
            replace hD2 := hD2.sub (ws' := [sO cy hh a kk dd b w ee qq ik, ia cy (hh 1) 7 (upd C 0 (C 0 + 1))] ++ (shB cy qq bi si f)) [9, 10, 0, 1, 2, 3, 4, 5, 6, 7, 8] (by decide) rfl
            subst hr_53
            refine lv_i2l hx hb dX6_write_56 rfl ?_
            have hcd : cWrite bi si 2 x2 = 0 := by unfold cWrite; clear hx hb hml hown hr hlocks hw hsz hA hG hK hP2 hD2 hS2 hl1; grind
            have hq9 : ([sO cy hh a kk dd b w ee qq ik, ia cy (hh 1) 7 (upd C 0 (C 0 + 1))] ++ (shB cy qq bi si f)) = ([sO cy hh a kk dd b w ee qq ik, ia cy (hh 1) 7 (fnd C (cWrite bi si 2 x2))] ++ (shB cy qq bi si f)) := congrArg (fun z9 => [sO cy hh a kk dd b w ee qq ik, ia cy (hh 1) 7 z9] ++ (shB cy qq bi si f)) (show (upd C 0 (C 0 + 1)) = (fnd C (cWrite bi si 2 x2)) from fnd_f hcd (by decide))
            replace hP2 := (congrArg (fun z9 => va_P D vwCl z9 _) hq9).mp hP2
            replace hD2 := (congrArg (fun z9 => va_D _ z9) hq9).mp hD2
            clear hq9
            have hq9 : ([sO cy hh a kk dd b w ee qq ik, ia cy (hh 1) 7 (fnd C (cWrite bi si 2 x2))] ++ (shB cy qq bi si f)) = ([sO cy hh a kk dd b w ee qq ik, ia cy (hh 1) 7 (fnd C (cWrite bi si 2 x2))] ++ (shB cy qq bi si (if cWrite bi si 2 x2 = 7 then va_up f (bstN 2) (vp_updL (f (bstN 2)) (bstN x2) (nrw (bi (bstN 2)) x3)) else f))) := congrArg (fun z9 => [sO cy hh a kk dd b w ee qq ik, ia cy (hh 1) 7 (fnd C (cWrite bi si 2 x2))] ++ (shB cy qq bi si z9)) (show f = (if cWrite bi si 2 x2 = 7 then va_up f (bstN 2) (vp_updL (f (bstN 2)) (bstN x2) (nrw (bi (bstN 2)) x3)) else f) from (if_neg (fun z9 => absurd (hcd.symm.trans z9) (by decide))).symm)
            replace hP2 := (congrArg (fun z9 => va_P D vwCl z9 _) hq9).mp hP2
            replace hD2 := (congrArg (fun z9 => va_D _ z9) hq9).mp hD2
            clear hq9
            refine re_l () hx hb hr hlocks hP2 hD2 hS2 dX6_write_57 ?_
            exact (ansL_f hcd (by decide) rfl)
      · replace hP1 : va_P D vwCl ([sO cy hh a kk dd b w ee qq ik, ia cy (hh 1) 7 C] ++ (shB cy qq bi si f)) H1 := hP1
        replace hD1 : va_D (va_A _ sz) ([sO cy hh a kk dd b w ee qq ik, ia cy (hh 1) 7 C] ++ (shB cy qq bi si f)) := hD1
        refine lv_aload_n hx hb dX6_write_31 rfl (lv_at hl1 1 rfl) ?_
        refine lv_iconst (v := 5) hx hb dX6_write_32 (by decide) ?_
        refine cV_i (wc := [sO cy hh a kk dd b w ee qq ik, ia cy (hh 1) 7 C]) (wr := shB cy qq bi si f) (rest := []) hx hb hml hown hw hG hK hP1 hD1 hS1 hA hl1 kc_X6_find kw_2_59 [.int 5] (c_X6_find l D cy G H1.size hh a kk dd b w ee qq ik C 5 (by first | omega | assumption)) [0, 1] [2, 3, 4, 5, 6, 7, 8, 9, 10] rfl rfl rfl rfl rfl 0 rfl rfl rfl rfl rfl (Nat.le_of_ble_eq_true rfl) ⟨Nat.le_of_ble_eq_true rfl, Nat.le_of_ble_eq_true rfl⟩ dX6_write_33 ⟨Nat.le_of_ble_eq_true rfl, Nat.le_of_ble_eq_true rfl⟩ (fun r_33 u9 H2 locs2 hu9 hP2 hD2 hS2 => ?_)
        clear hP1 hD1 hS1 locs1 H1
        have hr_33 := hu9
        replace hP2 : va_P D vwCl (shB cy qq bi si f ++ ([sO cy hh a kk dd b w ee qq ik, ia cy (hh 1) 7 (upd C 5 (C 5 + 1))])) H2 := hP2
        replace hD2 : va_D (va_A _ sz) (shB cy qq bi si f ++ ([sO cy hh a kk dd b w ee qq ik, ia cy (hh 1) 7 (upd C 5 (C 5 + 1))])) := hD2
        replace hP2 := hP2.sub (ws' := [sO cy hh a kk dd b w ee qq ik, ia cy (hh 1) 7 (upd C 5 (C 5 + 1))] ++ (shB cy qq bi si f)) [9, 10, 0, 1, 2, 3, 4, 5, 6, 7, 8] rfl
        replace hD2 := hD2.sub (ws' := [sO cy hh a kk dd b w ee qq ik, ia cy (hh 1) 7 (upd C 5 (C 5 + 1))] ++ (shB cy qq bi si f)) [9, 10, 0, 1, 2, 3, 4, 5, 6, 7, 8] (by decide) rfl
        subst hr_33
        refine lv_i2l hx hb dX6_write_36 rfl ?_
        have hcd : cWrite bi si 2 x2 = 5 := by unfold cWrite; clear hx hb hml hown hr hlocks hw hsz hA hG hK hP2 hD2 hS2 hl1; grind
        have hq9 : ([sO cy hh a kk dd b w ee qq ik, ia cy (hh 1) 7 (upd C 5 (C 5 + 1))] ++ (shB cy qq bi si f)) = ([sO cy hh a kk dd b w ee qq ik, ia cy (hh 1) 7 (fnd C (cWrite bi si 2 x2))] ++ (shB cy qq bi si f)) := congrArg (fun z9 => [sO cy hh a kk dd b w ee qq ik, ia cy (hh 1) 7 z9] ++ (shB cy qq bi si f)) (show (upd C 5 (C 5 + 1)) = (fnd C (cWrite bi si 2 x2)) from fnd_f hcd (by decide))
        replace hP2 := (congrArg (fun z9 => va_P D vwCl z9 _) hq9).mp hP2
        replace hD2 := (congrArg (fun z9 => va_D _ z9) hq9).mp hD2
        clear hq9
        have hq9 : ([sO cy hh a kk dd b w ee qq ik, ia cy (hh 1) 7 (fnd C (cWrite bi si 2 x2))] ++ (shB cy qq bi si f)) = ([sO cy hh a kk dd b w ee qq ik, ia cy (hh 1) 7 (fnd C (cWrite bi si 2 x2))] ++ (shB cy qq bi si (if cWrite bi si 2 x2 = 7 then va_up f (bstN 2) (vp_updL (f (bstN 2)) (bstN x2) (nrw (bi (bstN 2)) x3)) else f))) := congrArg (fun z9 => [sO cy hh a kk dd b w ee qq ik, ia cy (hh 1) 7 (fnd C (cWrite bi si 2 x2))] ++ (shB cy qq bi si z9)) (show f = (if cWrite bi si 2 x2 = 7 then va_up f (bstN 2) (vp_updL (f (bstN 2)) (bstN x2) (nrw (bi (bstN 2)) x3)) else f) from (if_neg (fun z9 => absurd (hcd.symm.trans z9) (by decide))).symm)
        replace hP2 := (congrArg (fun z9 => va_P D vwCl z9 _) hq9).mp hP2
        replace hD2 := (congrArg (fun z9 => va_D _ z9) hq9).mp hD2
        clear hq9
        refine re_l () hx hb hr hlocks hP2 hD2 hS2 dX6_write_37 ?_
        exact (ansL_f hcd (by decide) rfl)
    · replace hP1 : va_P D vwCl ([sO cy hh a kk dd b w ee qq ik, ia cy (hh 1) 7 C, qsB cy qq, hO cy (qq 1) (qq 5) (bi 0) (si 0), hO cy (qq 2) (qq 6) (bi 1) (si 1), hO cy (qq 3) (qq 7) (bi 2) (si 2), hO cy (qq 4) (qq 8) (bi 3) (si 3), la cy (qq 5) 40 (f 0), la cy (qq 6) 40 (f 1), la cy (qq 7) 40 (f 2), la cy (qq 8) 40 (f 3)]) H1 := hP1
      replace hD1 : va_D (va_A _ sz) ([sO cy hh a kk dd b w ee qq ik, ia cy (hh 1) 7 C, qsB cy qq, hO cy (qq 1) (qq 5) (bi 0) (si 0), hO cy (qq 2) (qq 6) (bi 1) (si 1), hO cy (qq 3) (qq 7) (bi 2) (si 2), hO cy (qq 4) (qq 8) (bi 3) (si 3), la cy (qq 5) 40 (f 0), la cy (qq 6) 40 (f 1), la cy (qq 7) 40 (f 2), la cy (qq 8) 40 (f 3)]) := hD1
      refine lv_aload_n hx hb dX6_write_15 rfl (lv_at hl0 0 rfl) ?_
      refine va_get (D := D) (ci := 6) (v := .ref (qq 0)) (C := RX6) (T := TX6) (N := 9) hx hb hw iX6 hown hK hP1 0 rfl rfl 7 (by decide) (hw _ kw_2_34) (fun _ h9 => h9) rfl dX6_write_16 ?_
      refine lv_iload_n hx hb dX6_write_19 rfl (lv_at hl0 1 rfl) ?_
      refine ald_q hx hb hK hP1 2 3 rfl rfl rfl 3 rfl (by first | omega | assumption) (by decide) (rfl) dX6_write_20 ?_
      refine lv_astore (lv' := [(5, .ref (qq 4)), (0, .ref (hh 0)), (1, .int 3), (2, .int x2), (3, .long x3)]) hx hb dX6_write_21 hl0 (by decide) rfl (fun ls1 hl1 => ?_)
      clear hl0 ls0
      refine lv_aload hx hb dX6_write_23 (lv_at hl1 0 rfl) ?_
      refine va_get (D := D) (ci := 2) (v := .int (bi 3)) (C := RX2) (T := TX2) (N := 3) hx hb hw iX2 hown hK hP1 6 rfl rfl 1 (by decide) (hw _ kw_2_16) (fun _ h9 => h9) rfl dX6_write_25 ?_
      refine lv_if_ne (tgt := 38) hx hb dX6_write_28 (by decide) (fun c_28 => ?_) (fun c_28 => ?_)
      · refine lv_iload_n hx hb dX6_write_38 rfl (lv_at hl1 3 rfl) ?_
        refine lv_if_lt (tgt := 51) hx hb dX6_write_39 (by decide) (fun c_39 => ?_) (fun c_39 => ?_)
        · replace hP1 : va_P D vwCl ([sO cy hh a kk dd b w ee qq ik, ia cy (hh 1) 7 C] ++ (shB cy qq bi si f)) H1 := hP1
          replace hD1 : va_D (va_A _ sz) ([sO cy hh a kk dd b w ee qq ik, ia cy (hh 1) 7 C] ++ (shB cy qq bi si f)) := hD1
          refine lv_aload_n hx hb dX6_write_51 rfl (lv_at hl1 1 rfl) ?_
          refine lv_iconst (v := 0) hx hb dX6_write_52 (by decide) ?_
          refine cV_i (wc := [sO cy hh a kk dd b w ee qq ik, ia cy (hh 1) 7 C]) (wr := shB cy qq bi si f) (rest := []) hx hb hml hown hw hG hK hP1 hD1 hS1 hA hl1 kc_X6_find kw_2_59 [.int 0] (c_X6_find l D cy G H1.size hh a kk dd b w ee qq ik C 0 (by first | omega | assumption)) [0, 1] [2, 3, 4, 5, 6, 7, 8, 9, 10] rfl rfl rfl rfl rfl 0 rfl rfl rfl rfl rfl (Nat.le_of_ble_eq_true rfl) ⟨Nat.le_of_ble_eq_true rfl, Nat.le_of_ble_eq_true rfl⟩ dX6_write_53 ⟨Nat.le_of_ble_eq_true rfl, Nat.le_of_ble_eq_true rfl⟩ (fun r_53 u9 H2 locs2 hu9 hP2 hD2 hS2 => ?_)
          clear hP1 hD1 hS1 locs1 H1
          have hr_53 := hu9
          replace hP2 : va_P D vwCl (shB cy qq bi si f ++ ([sO cy hh a kk dd b w ee qq ik, ia cy (hh 1) 7 (upd C 0 (C 0 + 1))])) H2 := hP2
          replace hD2 : va_D (va_A _ sz) (shB cy qq bi si f ++ ([sO cy hh a kk dd b w ee qq ik, ia cy (hh 1) 7 (upd C 0 (C 0 + 1))])) := hD2
          replace hP2 := hP2.sub (ws' := [sO cy hh a kk dd b w ee qq ik, ia cy (hh 1) 7 (upd C 0 (C 0 + 1))] ++ (shB cy qq bi si f)) [9, 10, 0, 1, 2, 3, 4, 5, 6, 7, 8] rfl
          replace hD2 := hD2.sub (ws' := [sO cy hh a kk dd b w ee qq ik, ia cy (hh 1) 7 (upd C 0 (C 0 + 1))] ++ (shB cy qq bi si f)) [9, 10, 0, 1, 2, 3, 4, 5, 6, 7, 8] (by decide) rfl
          subst hr_53
          refine lv_i2l hx hb dX6_write_56 rfl ?_
          have hcd : cWrite bi si 3 x2 = 0 := by unfold cWrite; clear hx hb hml hown hr hlocks hw hsz hA hG hK hP2 hD2 hS2 hl1; grind
          have hq9 : ([sO cy hh a kk dd b w ee qq ik, ia cy (hh 1) 7 (upd C 0 (C 0 + 1))] ++ (shB cy qq bi si f)) = ([sO cy hh a kk dd b w ee qq ik, ia cy (hh 1) 7 (fnd C (cWrite bi si 3 x2))] ++ (shB cy qq bi si f)) := congrArg (fun z9 => [sO cy hh a kk dd b w ee qq ik, ia cy (hh 1) 7 z9] ++ (shB cy qq bi si f)) (show (upd C 0 (C 0 + 1)) = (fnd C (cWrite bi si 3 x2)) from fnd_f hcd (by decide))
          replace hP2 := (congrArg (fun z9 => va_P D vwCl z9 _) hq9).mp hP2
          replace hD2 := (congrArg (fun z9 => va_D _ z9) hq9).mp hD2
          clear hq9
          have hq9 : ([sO cy hh a kk dd b w ee qq ik, ia cy (hh 1) 7 (fnd C (cWrite bi si 3 x2))] ++ (shB cy qq bi si f)) = ([sO cy hh a kk dd b w ee qq ik, ia cy (hh 1) 7 (fnd C (cWrite bi si 3 x2))] ++ (shB cy qq bi si (if cWrite bi si 3 x2 = 7 then va_up f (bstN 3) (vp_updL (f (bstN 3)) (bstN x2) (nrw (bi (bstN 3)) x3)) else f))) := congrArg (fun z9 => [sO cy hh a kk dd b w ee qq ik, ia cy (hh 1) 7 (fnd C (cWrite bi si 3 x2))] ++ (shB cy qq bi si z9)) (show f = (if cWrite bi si 3 x2 = 7 then va_up f (bstN 3) (vp_updL (f (bstN 3)) (bstN x2) (nrw (bi (bstN 3)) x3)) else f) from (if_neg (fun z9 => absurd (hcd.symm.trans z9) (by decide))).symm)
          replace hP2 := (congrArg (fun z9 => va_P D vwCl z9 _) hq9).mp hP2
          replace hD2 := (congrArg (fun z9 => va_D _ z9) hq9).mp hD2
          clear hq9
          refine re_l () hx hb hr hlocks hP2 hD2 hS2 dX6_write_57 ?_
          exact (ansL_f hcd (by decide) rfl)
        · refine lv_iload_n hx hb dX6_write_42 rfl (lv_at hl1 3 rfl) ?_
          refine lv_aload hx hb dX6_write_43 (lv_at hl1 0 rfl) ?_
          refine va_get (D := D) (ci := 2) (v := .int (si 3)) (C := RX2) (T := TX2) (N := 3) hx hb hw iX2 hown hK hP1 6 rfl rfl 2 (by decide) (hw _ kw_2_18) (fun _ h9 => h9) rfl dX6_write_45 ?_
          refine tp (show (si 3) = nI (bstN (si 3)) from (hso 3 (by decide)).1) ?_
          refine lv_icmp_lt (tgt := 58) hx hb dX6_write_48 (by decide) (fun c_48 => ?_) (fun c_48 => ?_)
          · obtain ⟨j, hj, rfl⟩ := nI_rn (n := bstN (si 3)) (by omega) (x := x2) ⟨Int32.not_lt.mp c_39, c_48⟩
            have hbj : bstN (nI j) = j := bst_n (by omega)
            refine lv_aload hx hb dX6_write_58 (lv_at hl1 0 rfl) ?_
            refine va_get (D := D) (ci := 2) (v := .ref (qq 8)) (C := RX2) (T := TX2) (N := 3) hx hb hw iX2 hown hK hP1 6 rfl rfl 0 (by decide) (hw _ kw_2_14) (fun _ h9 => h9) rfl dX6_write_60 ?_
            refine lv_iload_n hx hb dX6_write_63 rfl (lv_at hl1 3 rfl) ?_
            refine ald_l (f := f 3) hx hb hK hP1 10 1 rfl rfl j rfl (by first | omega | assumption) (by decide) dX6_write_64 ?_
            refine lv_lstore (lv' := [(6, .long ((f 3) j)), (5, .ref (qq 4)), (0, .ref (hh 0)), (1, .int 3), (2, .int (nI j)), (3, .long x3)]) hx hb dX6_write_65 hl1 (by decide) rfl (fun ls2 hl2 => ?_)
            clear hl1 ls1
            refine lv_aload hx hb dX6_write_67 (lv_at hl2 1 rfl) ?_
            refine lv_iload_n hx hb dX6_write_69 rfl (lv_at hl2 4 rfl) ?_
            refine lv_lload_n hx hb dX6_write_70 rfl (lv_at hl2 5 rfl) ?_
            refine cV_v (wc := [hO cy (qq 4) (qq 8) (bi 3) (si 3), la cy (qq 8) 40 (f 3)]) (wr := [sO cy hh a kk dd b w ee qq ik, ia cy (hh 1) 7 C, qsB cy qq, hO cy (qq 1) (qq 5) (bi 0) (si 0), hO cy (qq 2) (qq 6) (bi 1) (si 1), hO cy (qq 3) (qq 7) (bi 2) (si 2), la cy (qq 5) 40 (f 0), la cy (qq 6) 40 (f 1), la cy (qq 7) 40 (f 2)]) (rest := []) hx hb hml hown hw hG hK hP1 hD1 hS1 hA hl2 kc_X2_put kw_3_132 [.int (nI j), .long x3] (c_X2_put l D cy G H1.size (qq 4) (qq 8) (bi 3) (si 3) (f 3) (bstN (si 3)) j x3 ((hso 3 (by decide)).1) hj hq3) [6, 10] [0, 1, 2, 3, 4, 5, 7, 8, 9] rfl rfl rfl rfl rfl 0 rfl rfl rfl rfl rfl (Nat.le_of_ble_eq_true rfl) ⟨Nat.le_of_ble_eq_true rfl, Nat.le_of_ble_eq_true rfl⟩ dX6_write_71 ⟨Nat.le_of_ble_eq_true rfl, Nat.le_of_ble_eq_true rfl⟩ (fun u9 H2 locs2 hu9 hP2 hD2 hS2 => ?_)
            clear hP1 hD1 hS1 locs1 H1
            replace hP2 : va_P D vwCl ([sO cy hh a kk dd b w ee qq ik, ia cy (hh 1) 7 C, qsB cy qq, hO cy (qq 1) (qq 5) (bi 0) (si 0), hO cy (qq 2) (qq 6) (bi 1) (si 1), hO cy (qq 3) (qq 7) (bi 2) (si 2), la cy (qq 5) 40 (f 0), la cy (qq 6) 40 (f 1), la cy (qq 7) 40 (f 2), hO cy (qq 4) (qq 8) (bi 3) (si 3), la cy (qq 8) 40 (vp_updL (f 3) j (nrw (bi 3) x3))]) H2 := hP2
            replace hD2 : va_D (va_A _ sz) ([sO cy hh a kk dd b w ee qq ik, ia cy (hh 1) 7 C, qsB cy qq, hO cy (qq 1) (qq 5) (bi 0) (si 0), hO cy (qq 2) (qq 6) (bi 1) (si 1), hO cy (qq 3) (qq 7) (bi 2) (si 2), la cy (qq 5) 40 (f 0), la cy (qq 6) 40 (f 1), la cy (qq 7) 40 (f 2), hO cy (qq 4) (qq 8) (bi 3) (si 3), la cy (qq 8) 40 (vp_updL (f 3) j (nrw (bi 3) x3))]) := hD2
            replace hP2 := hP2.sub (ws' := [sO cy hh a kk dd b w ee qq ik, ia cy (hh 1) 7 C, qsB cy qq, hO cy (qq 1) (qq 5) (bi 0) (si 0), hO cy (qq 2) (qq 6) (bi 1) (si 1), hO cy (qq 3) (qq 7) (bi 2) (si 2), hO cy (qq 4) (qq 8) (bi 3) (si 3), la cy (qq 5) 40 (f 0), la cy (qq 6) 40 (f 1), la cy (qq 7) 40 (f 2), la cy (qq 8) 40 (vp_updL (f 3) j (nrw (bi 3) x3))]) [0, 1, 2, 3, 4, 5, 9, 6, 7, 8, 10] rfl
            replace hD2 := hD2.sub (ws' := [sO cy hh a kk dd b w ee qq ik, ia cy (hh 1) 7 C, qsB cy qq, hO cy (qq 1) (qq 5) (bi 0) (si 0), hO cy (qq 2) (qq 6) (bi 1) (si 1), hO cy (qq 3) (qq 7) (bi 2) (si 2), hO cy (qq 4) (qq 8) (bi 3) (si 3), la cy (qq 5) 40 (f 0), la cy (qq 6) 40 (f 1), la cy (qq 7) 40 (f 2), la cy (qq 8) 40 (vp_updL (f 3) j (nrw (bi 3) x3))]) [0, 1, 2, 3, 4, 5, 9, 6, 7, 8, 10] (by decide) rfl
            refine lv_lload hx hb dX6_write_74 (lv_at hl2 0 rfl) ?_
            replace hP2 : va_P D vwCl ([sO cy hh a kk dd b w ee qq ik, ia cy (hh 1) 7 C] ++ (shB cy qq bi si (va_up f 3 (vp_updL (f 3) j (nrw (bi 3) x3))))) H2 := hP2
            replace hD2 : va_D (va_A _ sz) ([sO cy hh a kk dd b w ee qq ik, ia cy (hh 1) 7 C] ++ (shB cy qq bi si (va_up f 3 (vp_updL (f 3) j (nrw (bi 3) x3))))) := hD2
            have hcd : cWrite bi si 3 (nI j) = 7 := by unfold cWrite; clear hx hb hml hown hr hlocks hw hsz hA hG hK hP2 hD2 hS2 hl2; grind
            have hq9 : ([sO cy hh a kk dd b w ee qq ik, ia cy (hh 1) 7 C] ++ (shB cy qq bi si (va_up f 3 (vp_updL (f 3) j (nrw (bi 3) x3))))) = ([sO cy hh a kk dd b w ee qq ik, ia cy (hh 1) 7 (fnd C (cWrite bi si 3 (nI j)))] ++ (shB cy qq bi si (va_up f 3 (vp_updL (f 3) j (nrw (bi 3) x3))))) := congrArg (fun z9 => [sO cy hh a kk dd b w ee qq ik, ia cy (hh 1) 7 z9] ++ (shB cy qq bi si (va_up f 3 (vp_updL (f 3) j (nrw (bi 3) x3))))) (show C = (fnd C (cWrite bi si 3 (nI j))) from fnd_o hcd)
            replace hP2 := (congrArg (fun z9 => va_P D vwCl z9 _) hq9).mp hP2
            replace hD2 := (congrArg (fun z9 => va_D _ z9) hq9).mp hD2
            clear hq9
            have hq9 : ([sO cy hh a kk dd b w ee qq ik, ia cy (hh 1) 7 (fnd C (cWrite bi si 3 (nI j)))] ++ (shB cy qq bi si (va_up f 3 (vp_updL (f 3) j (nrw (bi 3) x3))))) = ([sO cy hh a kk dd b w ee qq ik, ia cy (hh 1) 7 (fnd C (cWrite bi si 3 (nI j)))] ++ (shB cy qq bi si (if cWrite bi si 3 (nI j) = 7 then va_up f (bstN 3) (vp_updL (f (bstN 3)) (bstN (nI j)) (nrw (bi (bstN 3)) x3)) else f))) := congrArg (fun z9 => [sO cy hh a kk dd b w ee qq ik, ia cy (hh 1) 7 (fnd C (cWrite bi si 3 (nI j)))] ++ (shB cy qq bi si z9)) (show (va_up f 3 (vp_updL (f 3) j (nrw (bi 3) x3))) = (if cWrite bi si 3 (nI j) = 7 then va_up f (bstN 3) (vp_updL (f (bstN 3)) (bstN (nI j)) (nrw (bi (bstN 3)) x3)) else f) from by rw [if_pos hcd]; simp only [hbj, hb0, hb1, hb2, hb3])
            replace hP2 := (congrArg (fun z9 => va_P D vwCl z9 _) hq9).mp hP2
            replace hD2 := (congrArg (fun z9 => va_D _ z9) hq9).mp hD2
            clear hq9
            refine re_l () hx hb hr hlocks hP2 hD2 hS2 dX6_write_76 ?_
            exact (ansL_o hcd (by rw [hbj]; simp only [hb0, hb1, hb2, hb3]))
          · replace hP1 : va_P D vwCl ([sO cy hh a kk dd b w ee qq ik, ia cy (hh 1) 7 C] ++ (shB cy qq bi si f)) H1 := hP1
            replace hD1 : va_D (va_A _ sz) ([sO cy hh a kk dd b w ee qq ik, ia cy (hh 1) 7 C] ++ (shB cy qq bi si f)) := hD1
            refine lv_aload_n hx hb dX6_write_51 rfl (lv_at hl1 1 rfl) ?_
            refine lv_iconst (v := 0) hx hb dX6_write_52 (by decide) ?_
            refine cV_i (wc := [sO cy hh a kk dd b w ee qq ik, ia cy (hh 1) 7 C]) (wr := shB cy qq bi si f) (rest := []) hx hb hml hown hw hG hK hP1 hD1 hS1 hA hl1 kc_X6_find kw_2_59 [.int 0] (c_X6_find l D cy G H1.size hh a kk dd b w ee qq ik C 0 (by first | omega | assumption)) [0, 1] [2, 3, 4, 5, 6, 7, 8, 9, 10] rfl rfl rfl rfl rfl 0 rfl rfl rfl rfl rfl (Nat.le_of_ble_eq_true rfl) ⟨Nat.le_of_ble_eq_true rfl, Nat.le_of_ble_eq_true rfl⟩ dX6_write_53 ⟨Nat.le_of_ble_eq_true rfl, Nat.le_of_ble_eq_true rfl⟩ (fun r_53 u9 H2 locs2 hu9 hP2 hD2 hS2 => ?_)
            clear hP1 hD1 hS1 locs1 H1
            have hr_53 := hu9
            replace hP2 : va_P D vwCl (shB cy qq bi si f ++ ([sO cy hh a kk dd b w ee qq ik, ia cy (hh 1) 7 (upd C 0 (C 0 + 1))])) H2 := hP2
            replace hD2 : va_D (va_A _ sz) (shB cy qq bi si f ++ ([sO cy hh a kk dd b w ee qq ik, ia cy (hh 1) 7 (upd C 0 (C 0 + 1))])) := hD2
            replace hP2 := hP2.sub (ws' := [sO cy hh a kk dd b w ee qq ik, ia cy (hh 1) 7 (upd C 0 (C 0 + 1))] ++ (shB cy qq bi si f)) [9, 10, 0, 1, 2, 3, 4, 5, 6, 7, 8] rfl
            replace hD2 := hD2.sub (ws' := [sO cy hh a kk dd b w ee qq ik, ia cy (hh 1) 7 (upd C 0 (C 0 + 1))] ++ (shB cy qq bi si f)) [9, 10, 0, 1, 2, 3, 4, 5, 6, 7, 8] (by decide) rfl
            subst hr_53
            refine lv_i2l hx hb dX6_write_56 rfl ?_
            have hcd : cWrite bi si 3 x2 = 0 := by unfold cWrite; clear hx hb hml hown hr hlocks hw hsz hA hG hK hP2 hD2 hS2 hl1; grind
            have hq9 : ([sO cy hh a kk dd b w ee qq ik, ia cy (hh 1) 7 (upd C 0 (C 0 + 1))] ++ (shB cy qq bi si f)) = ([sO cy hh a kk dd b w ee qq ik, ia cy (hh 1) 7 (fnd C (cWrite bi si 3 x2))] ++ (shB cy qq bi si f)) := congrArg (fun z9 => [sO cy hh a kk dd b w ee qq ik, ia cy (hh 1) 7 z9] ++ (shB cy qq bi si f)) (show (upd C 0 (C 0 + 1)) = (fnd C (cWrite bi si 3 x2)) from fnd_f hcd (by decide))
            replace hP2 := (congrArg (fun z9 => va_P D vwCl z9 _) hq9).mp hP2
            replace hD2 := (congrArg (fun z9 => va_D _ z9) hq9).mp hD2
            clear hq9
            have hq9 : ([sO cy hh a kk dd b w ee qq ik, ia cy (hh 1) 7 (fnd C (cWrite bi si 3 x2))] ++ (shB cy qq bi si f)) = ([sO cy hh a kk dd b w ee qq ik, ia cy (hh 1) 7 (fnd C (cWrite bi si 3 x2))] ++ (shB cy qq bi si (if cWrite bi si 3 x2 = 7 then va_up f (bstN 3) (vp_updL (f (bstN 3)) (bstN x2) (nrw (bi (bstN 3)) x3)) else f))) := congrArg (fun z9 => [sO cy hh a kk dd b w ee qq ik, ia cy (hh 1) 7 (fnd C (cWrite bi si 3 x2))] ++ (shB cy qq bi si z9)) (show f = (if cWrite bi si 3 x2 = 7 then va_up f (bstN 3) (vp_updL (f (bstN 3)) (bstN x2) (nrw (bi (bstN 3)) x3)) else f) from (if_neg (fun z9 => absurd (hcd.symm.trans z9) (by decide))).symm)
            replace hP2 := (congrArg (fun z9 => va_P D vwCl z9 _) hq9).mp hP2
            replace hD2 := (congrArg (fun z9 => va_D _ z9) hq9).mp hD2
            clear hq9
            refine re_l () hx hb hr hlocks hP2 hD2 hS2 dX6_write_57 ?_
            exact (ansL_f hcd (by decide) rfl)
      · replace hP1 : va_P D vwCl ([sO cy hh a kk dd b w ee qq ik, ia cy (hh 1) 7 C] ++ (shB cy qq bi si f)) H1 := hP1
        replace hD1 : va_D (va_A _ sz) ([sO cy hh a kk dd b w ee qq ik, ia cy (hh 1) 7 C] ++ (shB cy qq bi si f)) := hD1
        refine lv_aload_n hx hb dX6_write_31 rfl (lv_at hl1 1 rfl) ?_
        refine lv_iconst (v := 5) hx hb dX6_write_32 (by decide) ?_
        refine cV_i (wc := [sO cy hh a kk dd b w ee qq ik, ia cy (hh 1) 7 C]) (wr := shB cy qq bi si f) (rest := []) hx hb hml hown hw hG hK hP1 hD1 hS1 hA hl1 kc_X6_find kw_2_59 [.int 5] (c_X6_find l D cy G H1.size hh a kk dd b w ee qq ik C 5 (by first | omega | assumption)) [0, 1] [2, 3, 4, 5, 6, 7, 8, 9, 10] rfl rfl rfl rfl rfl 0 rfl rfl rfl rfl rfl (Nat.le_of_ble_eq_true rfl) ⟨Nat.le_of_ble_eq_true rfl, Nat.le_of_ble_eq_true rfl⟩ dX6_write_33 ⟨Nat.le_of_ble_eq_true rfl, Nat.le_of_ble_eq_true rfl⟩ (fun r_33 u9 H2 locs2 hu9 hP2 hD2 hS2 => ?_)
        clear hP1 hD1 hS1 locs1 H1
        have hr_33 := hu9
        replace hP2 : va_P D vwCl (shB cy qq bi si f ++ ([sO cy hh a kk dd b w ee qq ik, ia cy (hh 1) 7 (upd C 5 (C 5 + 1))])) H2 := hP2
        replace hD2 : va_D (va_A _ sz) (shB cy qq bi si f ++ ([sO cy hh a kk dd b w ee qq ik, ia cy (hh 1) 7 (upd C 5 (C 5 + 1))])) := hD2
        replace hP2 := hP2.sub (ws' := [sO cy hh a kk dd b w ee qq ik, ia cy (hh 1) 7 (upd C 5 (C 5 + 1))] ++ (shB cy qq bi si f)) [9, 10, 0, 1, 2, 3, 4, 5, 6, 7, 8] rfl
        replace hD2 := hD2.sub (ws' := [sO cy hh a kk dd b w ee qq ik, ia cy (hh 1) 7 (upd C 5 (C 5 + 1))] ++ (shB cy qq bi si f)) [9, 10, 0, 1, 2, 3, 4, 5, 6, 7, 8] (by decide) rfl
        subst hr_33
        refine lv_i2l hx hb dX6_write_36 rfl ?_
        have hcd : cWrite bi si 3 x2 = 5 := by unfold cWrite; clear hx hb hml hown hr hlocks hw hsz hA hG hK hP2 hD2 hS2 hl1; grind
        have hq9 : ([sO cy hh a kk dd b w ee qq ik, ia cy (hh 1) 7 (upd C 5 (C 5 + 1))] ++ (shB cy qq bi si f)) = ([sO cy hh a kk dd b w ee qq ik, ia cy (hh 1) 7 (fnd C (cWrite bi si 3 x2))] ++ (shB cy qq bi si f)) := congrArg (fun z9 => [sO cy hh a kk dd b w ee qq ik, ia cy (hh 1) 7 z9] ++ (shB cy qq bi si f)) (show (upd C 5 (C 5 + 1)) = (fnd C (cWrite bi si 3 x2)) from fnd_f hcd (by decide))
        replace hP2 := (congrArg (fun z9 => va_P D vwCl z9 _) hq9).mp hP2
        replace hD2 := (congrArg (fun z9 => va_D _ z9) hq9).mp hD2
        clear hq9
        have hq9 : ([sO cy hh a kk dd b w ee qq ik, ia cy (hh 1) 7 (fnd C (cWrite bi si 3 x2))] ++ (shB cy qq bi si f)) = ([sO cy hh a kk dd b w ee qq ik, ia cy (hh 1) 7 (fnd C (cWrite bi si 3 x2))] ++ (shB cy qq bi si (if cWrite bi si 3 x2 = 7 then va_up f (bstN 3) (vp_updL (f (bstN 3)) (bstN x2) (nrw (bi (bstN 3)) x3)) else f))) := congrArg (fun z9 => [sO cy hh a kk dd b w ee qq ik, ia cy (hh 1) 7 (fnd C (cWrite bi si 3 x2))] ++ (shB cy qq bi si z9)) (show f = (if cWrite bi si 3 x2 = 7 then va_up f (bstN 3) (vp_updL (f (bstN 3)) (bstN x2) (nrw (bi (bstN 3)) x3)) else f) from (if_neg (fun z9 => absurd (hcd.symm.trans z9) (by decide))).symm)
        replace hP2 := (congrArg (fun z9 => va_P D vwCl z9 _) hq9).mp hP2
        replace hD2 := (congrArg (fun z9 => va_D _ z9) hq9).mp hD2
        clear hq9
        refine re_l () hx hb hr hlocks hP2 hD2 hS2 dX6_write_37 ?_
        exact (ansL_f hcd (by decide) rfl)
  · refine lv_aload_n hx hb dX6_write_8 rfl (lv_at hl0 0 rfl) ?_
    refine lv_iconst (v := 0) hx hb dX6_write_9 (by decide) ?_
    refine cV_i (wc := [sO cy hh a kk dd b w ee qq ik, ia cy (hh 1) 7 C]) (wr := shB cy qq bi si f) (rest := []) hx hb hml hown hw hG hK hP1 hD1 hS1 hA hl0 kc_X6_find kw_2_59 [.int 0] (c_X6_find l D cy G H1.size hh a kk dd b w ee qq ik C 0 (by first | omega | assumption)) [0, 1] [2, 3, 4, 5, 6, 7, 8, 9, 10] rfl rfl rfl rfl rfl 0 rfl rfl rfl rfl rfl (Nat.le_of_ble_eq_true rfl) ⟨Nat.le_of_ble_eq_true rfl, Nat.le_of_ble_eq_true rfl⟩ dX6_write_10 ⟨Nat.le_of_ble_eq_true rfl, Nat.le_of_ble_eq_true rfl⟩ (fun r_10 u9 H2 locs2 hu9 hP2 hD2 hS2 => ?_)
    clear hP1 hD1 hS1 locs1 H1
    have hr_10 := hu9
    replace hP2 : va_P D vwCl (shB cy qq bi si f ++ ([sO cy hh a kk dd b w ee qq ik, ia cy (hh 1) 7 (upd C 0 (C 0 + 1))])) H2 := hP2
    replace hD2 : va_D (va_A _ sz) (shB cy qq bi si f ++ ([sO cy hh a kk dd b w ee qq ik, ia cy (hh 1) 7 (upd C 0 (C 0 + 1))])) := hD2
    replace hP2 := hP2.sub (ws' := [sO cy hh a kk dd b w ee qq ik, ia cy (hh 1) 7 (upd C 0 (C 0 + 1))] ++ (shB cy qq bi si f)) [9, 10, 0, 1, 2, 3, 4, 5, 6, 7, 8] rfl
    replace hD2 := hD2.sub (ws' := [sO cy hh a kk dd b w ee qq ik, ia cy (hh 1) 7 (upd C 0 (C 0 + 1))] ++ (shB cy qq bi si f)) [9, 10, 0, 1, 2, 3, 4, 5, 6, 7, 8] (by decide) rfl
    subst hr_10
    refine lv_i2l hx hb dX6_write_13 rfl ?_
    have hcd : cWrite bi si x1 x2 = 0 := by unfold cWrite; clear hx hb hml hown hr hlocks hw hsz hA hG hK hP2 hD2 hS2 hl0; grind
    have hq9 : ([sO cy hh a kk dd b w ee qq ik, ia cy (hh 1) 7 (upd C 0 (C 0 + 1))] ++ (shB cy qq bi si f)) = ([sO cy hh a kk dd b w ee qq ik, ia cy (hh 1) 7 (fnd C (cWrite bi si x1 x2))] ++ (shB cy qq bi si f)) := congrArg (fun z9 => [sO cy hh a kk dd b w ee qq ik, ia cy (hh 1) 7 z9] ++ (shB cy qq bi si f)) (show (upd C 0 (C 0 + 1)) = (fnd C (cWrite bi si x1 x2)) from fnd_f hcd (by decide))
    replace hP2 := (congrArg (fun z9 => va_P D vwCl z9 _) hq9).mp hP2
    replace hD2 := (congrArg (fun z9 => va_D _ z9) hq9).mp hD2
    clear hq9
    have hq9 : ([sO cy hh a kk dd b w ee qq ik, ia cy (hh 1) 7 (fnd C (cWrite bi si x1 x2))] ++ (shB cy qq bi si f)) = ([sO cy hh a kk dd b w ee qq ik, ia cy (hh 1) 7 (fnd C (cWrite bi si x1 x2))] ++ (shB cy qq bi si (if cWrite bi si x1 x2 = 7 then va_up f (bstN x1) (vp_updL (f (bstN x1)) (bstN x2) (nrw (bi (bstN x1)) x3)) else f))) := congrArg (fun z9 => [sO cy hh a kk dd b w ee qq ik, ia cy (hh 1) 7 (fnd C (cWrite bi si x1 x2))] ++ (shB cy qq bi si z9)) (show f = (if cWrite bi si x1 x2 = 7 then va_up f (bstN x1) (vp_updL (f (bstN x1)) (bstN x2) (nrw (bi (bstN x1)) x3)) else f) from (if_neg (fun z9 => absurd (hcd.symm.trans z9) (by decide))).symm)
    replace hP2 := (congrArg (fun z9 => va_P D vwCl z9 _) hq9).mp hP2
    replace hD2 := (congrArg (fun z9 => va_D _ z9) hq9).mp hD2
    clear hq9
    refine re_l () hx hb hr hlocks hP2 hD2 hS2 dX6_write_14 ?_
    exact (ansL_f hcd (by decide) rfl)

theorem kc_X6_copy : kV yX6_copy cX6_copy 8 (some .int) 5 := ⟨kw_4_9, kw_4_10, kw_1_1, kw_4_11, by decide, by decide, by decide +kernel⟩
set_option maxHeartbeats 4000000 in
set_option maxRecDepth 100000 in
theorem c_X6_copy (l : Launch) (D : va_G) (cy : Nat → ClassId) (G : Nat → Nat) (sz : Nat) (hh : Nat → Nat) (a : Nat → Nat) (kk : Nat → Nat) (dd : Nat → Nat) (b : Nat → Nat) (w : Nat → Nat) (ee : Nat → Nat) (qq : Nat → Nat) (ik : Int32) (C : Nat → Int32) (bi : Nat → Int32) (si : Nat → Int32) (f : Nat → Nat → Int64) (x1 : Int32) (x2 : Int32) (x3 : Int32) (x4 : Int32) (x5 : Int32) (hso : shOk si f) : Met l yX6_copy (wm yX6_copy cX6_copy 8 (some .int)) { frames := 1, cells := 0, slots := 0, locals := 26 } (va_Pc [.ref (hh 0), .int x1, .int x2, .int x3, .int x4, .int x5] (pr D (TY cy) G ([sO cy hh a kk dd b w ee qq ik, ia cy (hh 1) 7 C] ++ (shB cy qq bi si f)) sz)) (va_Qi (fun (r : Int32) (u : Unit) => r = ans (cCopy bi si x1 x2 x3 x4 x5) (x5)) (fun (u : Unit) t => po D (va_A ([sO cy hh a kk dd b w ee qq ik, ia cy (hh 1) 7 C] ++ (shB cy qq bi si f)) sz) ([sO cy hh a kk dd b w ee qq ik, ia cy (hh 1) 7 (fnd C (cCopy bi si x1 x2 x3 x4 x5))] ++ (shB cy qq bi si (if cCopy bi si x1 x2 x3 x4 x5 = 7 then va_up f (bstN x3) (va_cpy (f (bstN x1)) (f (bstN x3)) (bstN x2) (bstN x4) (bstN x5)) else f))) t) (va_A ([sO cy hh a kk dd b w ee qq ik, ia cy (hh 1) 7 C] ++ (shB cy qq bi si f)) sz)) 0 0 (va_A ([sO cy hh a kk dd b w ee qq ik, ia cy (hh 1) 7 C] ++ (shB cy qq bi si f)) sz) := by
  refine mk_rw (by decide) RX6 rfl (Nat.le_of_ble_eq_true rfl) [(0, .ref (hh 0)), (1, .int x1), (2, .int x2), (3, .int x3), (4, .int x4), (5, .int x5)] rfl ?_
  intro p e s m below meth c hx hb hml hown hr hlocks hin hw hsz hA hG hK H0 locs0 hP0 hD0 hS0 ls0 hl0
  clear hin
  have hz0 := (hso 0 (by decide)).1
  have hz1 := (hso 1 (by decide)).1
  have hz2 := (hso 2 (by decide)).1
  have hz3 := (hso 3 (by decide)).1
  have hq0 := (hso 0 (by decide)).2.1
  have hq1 := (hso 1 (by decide)).2.1
  have hq2 := (hso 2 (by decide)).2.1
  have hq3 := (hso 3 (by decide)).2.1
  have hb0 : bstN 0 = 0 := rfl
  have hb1 : bstN 1 = 1 := rfl
  have hb2 : bstN 2 = 2 := rfl
  have hb3 : bstN 3 = 3 := rfl
  refine lv_aload_n hx hb dX6_copy_0 rfl (lv_at hl0 0 rfl) ?_
  refine lv_iload_n hx hb dX6_copy_1 rfl (lv_at hl0 1 rfl) ?_
  refine rV_i (wc := [sO cy hh a kk dd b w ee qq ik]) (rest := []) hx hb hml hown hw hG hK hP0 hS0 hA hl0 kc_X6_isSheet kw_3_128 [.int x1] (c_X6_isSheet l D cy G H0.size hh a kk dd b w ee qq ik x1) [0] rfl 0 rfl rfl rfl rfl rfl (Nat.le_of_ble_eq_true rfl) ⟨Nat.le_of_ble_eq_true rfl, Nat.le_of_ble_eq_true rfl⟩ dX6_copy_2 ⟨Nat.le_of_ble_eq_true rfl, Nat.le_of_ble_eq_true rfl⟩ (fun r_2 H1 locs1 hr_2 hP1 hS1 => ?_)
  have hD1 := hD0
  clear hP0 hD0 hS0 locs0 H0
  subst hr_2
  refine lb_eq (tgt := 16) hx hb dX6_copy_5 (by decide) (fun c_5 => ?_) (fun c_5 => ?_)
  · refine lv_aload_n hx hb dX6_copy_16 rfl (lv_at hl0 0 rfl) ?_
    refine lv_iconst (v := 0) hx hb dX6_copy_17 (by decide) ?_
    refine cV_i (wc := [sO cy hh a kk dd b w ee qq ik, ia cy (hh 1) 7 C]) (wr := shB cy qq bi si f) (rest := []) hx hb hml hown hw hG hK hP1 hD1 hS1 hA hl0 kc_X6_find kw_2_59 [.int 0] (c_X6_find l D cy G H1.size hh a kk dd b w ee qq ik C 0 (by first | omega | assumption)) [0, 1] [2, 3, 4, 5, 6, 7, 8, 9, 10] rfl rfl rfl rfl rfl 0 rfl rfl rfl rfl rfl (Nat.le_of_ble_eq_true rfl) ⟨Nat.le_of_ble_eq_true rfl, Nat.le_of_ble_eq_true rfl⟩ dX6_copy_18 ⟨Nat.le_of_ble_eq_true rfl, Nat.le_of_ble_eq_true rfl⟩ (fun r_18 u9 H2 locs2 hu9 hP2 hD2 hS2 => ?_)
    clear hP1 hD1 hS1 locs1 H1
    have hr_18 := hu9
    replace hP2 : va_P D vwCl (shB cy qq bi si f ++ ([sO cy hh a kk dd b w ee qq ik, ia cy (hh 1) 7 (upd C 0 (C 0 + 1))])) H2 := hP2
    replace hD2 : va_D (va_A _ sz) (shB cy qq bi si f ++ ([sO cy hh a kk dd b w ee qq ik, ia cy (hh 1) 7 (upd C 0 (C 0 + 1))])) := hD2
    replace hP2 := hP2.sub (ws' := [sO cy hh a kk dd b w ee qq ik, ia cy (hh 1) 7 (upd C 0 (C 0 + 1))] ++ (shB cy qq bi si f)) [9, 10, 0, 1, 2, 3, 4, 5, 6, 7, 8] rfl
    replace hD2 := hD2.sub (ws' := [sO cy hh a kk dd b w ee qq ik, ia cy (hh 1) 7 (upd C 0 (C 0 + 1))] ++ (shB cy qq bi si f)) [9, 10, 0, 1, 2, 3, 4, 5, 6, 7, 8] (by decide) rfl
    subst hr_18
    have hcd : cCopy bi si x1 x2 x3 x4 x5 = 0 := by unfold cCopy; clear hx hb hml hown hr hlocks hw hsz hA hG hK hP2 hD2 hS2 hl0; grind
    have hq9 : ([sO cy hh a kk dd b w ee qq ik, ia cy (hh 1) 7 (upd C 0 (C 0 + 1))] ++ (shB cy qq bi si f)) = ([sO cy hh a kk dd b w ee qq ik, ia cy (hh 1) 7 (fnd C (cCopy bi si x1 x2 x3 x4 x5))] ++ (shB cy qq bi si f)) := congrArg (fun z9 => [sO cy hh a kk dd b w ee qq ik, ia cy (hh 1) 7 z9] ++ (shB cy qq bi si f)) (show (upd C 0 (C 0 + 1)) = (fnd C (cCopy bi si x1 x2 x3 x4 x5)) from fnd_f hcd (by decide))
    replace hP2 := (congrArg (fun z9 => va_P D vwCl z9 _) hq9).mp hP2
    replace hD2 := (congrArg (fun z9 => va_D _ z9) hq9).mp hD2
    clear hq9
    have hq9 : ([sO cy hh a kk dd b w ee qq ik, ia cy (hh 1) 7 (fnd C (cCopy bi si x1 x2 x3 x4 x5))] ++ (shB cy qq bi si f)) = ([sO cy hh a kk dd b w ee qq ik, ia cy (hh 1) 7 (fnd C (cCopy bi si x1 x2 x3 x4 x5))] ++ (shB cy qq bi si (if cCopy bi si x1 x2 x3 x4 x5 = 7 then va_up f (bstN x3) (va_cpy (f (bstN x1)) (f (bstN x3)) (bstN x2) (bstN x4) (bstN x5)) else f))) := congrArg (fun z9 => [sO cy hh a kk dd b w ee qq ik, ia cy (hh 1) 7 (fnd C (cCopy bi si x1 x2 x3 x4 x5))] ++ (shB cy qq bi si z9)) (show f = (if cCopy bi si x1 x2 x3 x4 x5 = 7 then va_up f (bstN x3) (va_cpy (f (bstN x1)) (f (bstN x3)) (bstN x2) (bstN x4) (bstN x5)) else f) from (if_neg (fun z9 => absurd (hcd.symm.trans z9) (by decide))).symm)
    replace hP2 := (congrArg (fun z9 => va_P D vwCl z9 _) hq9).mp hP2
    replace hD2 := (congrArg (fun z9 => va_D _ z9) hq9).mp hD2
    clear hq9
    refine re_i () hx hb hr hlocks hP2 hD2 hS2 dX6_copy_21 ?_
    exact (ans_f hcd (by decide) rfl)
  · refine lv_aload_n hx hb dX6_copy_8 rfl (lv_at hl0 0 rfl) ?_
    refine lv_iload_n hx hb dX6_copy_9 rfl (lv_at hl0 3 rfl) ?_
    refine rV_i (wc := [sO cy hh a kk dd b w ee qq ik]) (rest := []) hx hb hml hown hw hG hK hP1 hS1 hA hl0 kc_X6_isSheet kw_3_128 [.int x3] (c_X6_isSheet l D cy G H1.size hh a kk dd b w ee qq ik x3) [0] rfl 0 rfl rfl rfl rfl rfl (Nat.le_of_ble_eq_true rfl) ⟨Nat.le_of_ble_eq_true rfl, Nat.le_of_ble_eq_true rfl⟩ dX6_copy_10 ⟨Nat.le_of_ble_eq_true rfl, Nat.le_of_ble_eq_true rfl⟩ (fun r_10 H2 locs2 hr_10 hP2 hS2 => ?_)
    have hD2 := hD1
    clear hP1 hD1 hS1 locs1 H1
    subst hr_10
    refine lb_ne (tgt := 22) hx hb dX6_copy_13 (by decide) (fun c_13 => ?_) (fun c_13 => ?_)
    · rcases in3 c_5 with rfl | rfl | rfl | rfl
      · replace hP2 : va_P D vwCl ([sO cy hh a kk dd b w ee qq ik, ia cy (hh 1) 7 C, qsB cy qq, hO cy (qq 1) (qq 5) (bi 0) (si 0), hO cy (qq 2) (qq 6) (bi 1) (si 1), hO cy (qq 3) (qq 7) (bi 2) (si 2), hO cy (qq 4) (qq 8) (bi 3) (si 3), la cy (qq 5) 40 (f 0), la cy (qq 6) 40 (f 1), la cy (qq 7) 40 (f 2), la cy (qq 8) 40 (f 3)]) H2 := hP2
        replace hD2 : va_D (va_A _ sz) ([sO cy hh a kk dd b w ee qq ik, ia cy (hh 1) 7 C, qsB cy qq, hO cy (qq 1) (qq 5) (bi 0) (si 0), hO cy (qq 2) (qq 6) (bi 1) (si 1), hO cy (qq 3) (qq 7) (bi 2) (si 2), hO cy (qq 4) (qq 8) (bi 3) (si 3), la cy (qq 5) 40 (f 0), la cy (qq 6) 40 (f 1), la cy (qq 7) 40 (f 2), la cy (qq 8) 40 (f 3)]) := hD2
        refine lv_aload_n hx hb dX6_copy_22 rfl (lv_at hl0 0 rfl) ?_
        refine va_get (D := D) (ci := 6) (v := .ref (qq 0)) (C := RX6) (T := TX6) (N := 9) hx hb hw iX6 hown hK hP2 0 rfl rfl 7 (by decide) (hw _ kw_2_34) (fun _ h9 => h9) rfl dX6_copy_23 ?_
        refine lv_iload_n hx hb dX6_copy_26 rfl (lv_at hl0 1 rfl) ?_
        refine ald_q hx hb hK hP2 2 3 rfl rfl rfl 0 rfl (by first | omega | assumption) (by decide) (rfl) dX6_copy_27 ?_
        refine lv_astore (lv' := [(6, .ref (qq 1)), (0, .ref (hh 0)), (1, .int 0), (2, .int x2), (3, .int x3), (4, .int x4), (5, .int x5)]) hx hb dX6_copy_28 hl0 (by decide) rfl (fun ls1 hl1 => ?_)
        clear hl0 ls0
        refine lv_aload_n hx hb dX6_copy_30 rfl (lv_at hl1 1 rfl) ?_
        refine va_get (D := D) (ci := 6) (v := .ref (qq 0)) (C := RX6) (T := TX6) (N := 9) hx hb hw iX6 hown hK hP2 0 rfl rfl 7 (by decide) (hw _ kw_2_34) (fun _ h9 => h9) rfl dX6_copy_31 ?_
        rcases in3 c_13 with rfl | rfl | rfl | rfl
        · refine lv_iload_n hx hb dX6_copy_34 rfl (lv_at hl1 4 rfl) ?_
          refine ald_q hx hb hK hP2 2 3 rfl rfl rfl 0 rfl (by first | omega | assumption) (by decide) (rfl) dX6_copy_35 ?_
          refine lv_astore (lv' := [(7, .ref (qq 1)), (6, .ref (qq 1)), (0, .ref (hh 0)), (1, .int 0), (2, .int x2), (3, .int 0), (4, .int x4), (5, .int x5)]) hx hb dX6_copy_36 hl1 (by decide) rfl (fun ls2 hl2 => ?_)
          clear hl1 ls1
          refine lv_aload hx hb dX6_copy_38 (lv_at hl2 1 rfl) ?_
          refine va_get (D := D) (ci := 2) (v := .int (bi 0)) (C := RX2) (T := TX2) (N := 3) hx hb hw iX2 hown hK hP2 3 rfl rfl 1 (by decide) (hw _ kw_2_16) (fun _ h9 => h9) rfl dX6_copy_40 ?_
          refine lv_if_eq (tgt := 54) hx hb dX6_copy_43 (by decide) (fun c_43 => ?_) (fun c_43 => ?_)
          · replace hP2 : va_P D vwCl ([sO cy hh a kk dd b w ee qq ik, ia cy (hh 1) 7 C] ++ (shB cy qq bi si f)) H2 := hP2
            replace hD2 : va_D (va_A _ sz) ([sO cy hh a kk dd b w ee qq ik, ia cy (hh 1) 7 C] ++ (shB cy qq bi si f)) := hD2
            refine lv_aload_n hx hb dX6_copy_54 rfl (lv_at hl2 2 rfl) ?_
            refine lv_iconst (v := 5) hx hb dX6_copy_55 (by decide) ?_
            refine cV_i (wc := [sO cy hh a kk dd b w ee qq ik, ia cy (hh 1) 7 C]) (wr := shB cy qq bi si f) (rest := []) hx hb hml hown hw hG hK hP2 hD2 hS2 hA hl2 kc_X6_find kw_2_59 [.int 5] (c_X6_find l D cy G H2.size hh a kk dd b w ee qq ik C 5 (by first | omega | assumption)) [0, 1] [2, 3, 4, 5, 6, 7, 8, 9, 10] rfl rfl rfl rfl rfl 0 rfl rfl rfl rfl rfl (Nat.le_of_ble_eq_true rfl) ⟨Nat.le_of_ble_eq_true rfl, Nat.le_of_ble_eq_true rfl⟩ dX6_copy_56 ⟨Nat.le_of_ble_eq_true rfl, Nat.le_of_ble_eq_true rfl⟩ (fun r_56 u9 H3 locs3 hu9 hP3 hD3 hS3 => ?_)
            clear hP2 hD2 hS2 locs2 H2
            have hr_56 := hu9
            replace hP3 : va_P D vwCl (shB cy qq bi si f ++ ([sO cy hh a kk dd b w ee qq ik, ia cy (hh 1) 7 (upd C 5 (C 5 + 1))])) H3 := hP3
            replace hD3 : va_D (va_A _ sz) (shB cy qq bi si f ++ ([sO cy hh a kk dd b w ee qq ik, ia cy (hh 1) 7 (upd C 5 (C 5 + 1))])) := hD3
            replace hP3 := hP3.sub (ws' := [sO cy hh a kk dd b w ee qq ik, ia cy (hh 1) 7 (upd C 5 (C 5 + 1))] ++ (shB cy qq bi si f)) [9, 10, 0, 1, 2, 3, 4, 5, 6, 7, 8] rfl
            replace hD3 := hD3.sub (ws' := [sO cy hh a kk dd b w ee qq ik, ia cy (hh 1) 7 (upd C 5 (C 5 + 1))] ++ (shB cy qq bi si f)) [9, 10, 0, 1, 2, 3, 4, 5, 6, 7, 8] (by decide) rfl
            subst hr_56
            have hcd : cCopy bi si 0 x2 0 x4 x5 = 5 := by unfold cCopy; clear hx hb hml hown hr hlocks hw hsz hA hG hK hP3 hD3 hS3 hl2; grind
            have hq9 : ([sO cy hh a kk dd b w ee qq ik, ia cy (hh 1) 7 (upd C 5 (C 5 + 1))] ++ (shB cy qq bi si f)) = ([sO cy hh a kk dd b w ee qq ik, ia cy (hh 1) 7 (fnd C (cCopy bi si 0 x2 0 x4 x5))] ++ (shB cy qq bi si f)) := congrArg (fun z9 => [sO cy hh a kk dd b w ee qq ik, ia cy (hh 1) 7 z9] ++ (shB cy qq bi si f)) (show (upd C 5 (C 5 + 1)) = (fnd C (cCopy bi si 0 x2 0 x4 x5)) from fnd_f hcd (by decide))
            replace hP3 := (congrArg (fun z9 => va_P D vwCl z9 _) hq9).mp hP3
            replace hD3 := (congrArg (fun z9 => va_D _ z9) hq9).mp hD3
            clear hq9
            have hq9 : ([sO cy hh a kk dd b w ee qq ik, ia cy (hh 1) 7 (fnd C (cCopy bi si 0 x2 0 x4 x5))] ++ (shB cy qq bi si f)) = ([sO cy hh a kk dd b w ee qq ik, ia cy (hh 1) 7 (fnd C (cCopy bi si 0 x2 0 x4 x5))] ++ (shB cy qq bi si (if cCopy bi si 0 x2 0 x4 x5 = 7 then va_up f (bstN 0) (va_cpy (f (bstN 0)) (f (bstN 0)) (bstN x2) (bstN x4) (bstN x5)) else f))) := congrArg (fun z9 => [sO cy hh a kk dd b w ee qq ik, ia cy (hh 1) 7 (fnd C (cCopy bi si 0 x2 0 x4 x5))] ++ (shB cy qq bi si z9)) (show f = (if cCopy bi si 0 x2 0 x4 x5 = 7 then va_up f (bstN 0) (va_cpy (f (bstN 0)) (f (bstN 0)) (bstN x2) (bstN x4) (bstN x5)) else f) from (if_neg (fun z9 => absurd (hcd.symm.trans z9) (by decide))).symm)
            replace hP3 := (congrArg (fun z9 => va_P D vwCl z9 _) hq9).mp hP3
            replace hD3 := (congrArg (fun z9 => va_D _ z9) hq9).mp hD3
            clear hq9
            refine re_i () hx hb hr hlocks hP3 hD3 hS3 dX6_copy_59 ?_
            exact (ans_f hcd (by decide) rfl)
          · refine lv_aload hx hb dX6_copy_46 (lv_at hl2 0 rfl) ?_
            refine va_get (D := D) (ci := 2) (v := .int (bi 0)) (C := RX2) (T := TX2) (N := 3) hx hb hw iX2 hown hK hP2 3 rfl rfl 1 (by decide) (hw _ kw_2_16) (fun _ h9 => h9) rfl dX6_copy_48 ?_
            refine lv_if_ne (tgt := 60) hx hb dX6_copy_51 (by decide) (fun c_51 => ?_) (fun c_51 => ?_)
            · refine lv_aload hx hb dX6_copy_60 (lv_at hl2 1 rfl) ?_
              refine va_get (D := D) (ci := 2) (v := .int (bi 0)) (C := RX2) (T := TX2) (N := 3) hx hb hw iX2 hown hK hP2 3 rfl rfl 1 (by decide) (hw _ kw_2_16) (fun _ h9 => h9) rfl dX6_copy_62 ?_
              refine lv_aload hx hb dX6_copy_65 (lv_at hl2 0 rfl) ?_
              refine va_get (D := D) (ci := 2) (v := .int (bi 0)) (C := RX2) (T := TX2) (N := 3) hx hb hw iX2 hown hK hP2 3 rfl rfl 1 (by decide) (hw _ kw_2_16) (fun _ h9 => h9) rfl dX6_copy_67 ?_
              refine lv_icmp_eq (tgt := 79) hx hb dX6_copy_70 (by decide) (fun c_70 => ?_) (fun c_70 => ?_)
              · refine lv_aload hx hb dX6_copy_79 (lv_at hl2 1 rfl) ?_
                refine lv_iload_n hx hb dX6_copy_81 rfl (lv_at hl2 4 rfl) ?_
                refine lv_iload hx hb dX6_copy_82 (lv_at hl2 7 rfl) ?_
                refine rV_i (wc := [hO cy (qq 1) (qq 5) (bi 0) (si 0), la cy (qq 5) 40 (f 0)]) (rest := []) hx hb hml hown hw hG hK hP2 hS2 hA hl2 kc_X2_hasRow kw_4_12 [.int x2, .int x5] (c_X2_hasRow l D cy G H2.size (qq 1) (qq 5) (bi 0) (si 0) (f 0) x2 x5) [3, 7] rfl 0 rfl rfl rfl rfl rfl (Nat.le_of_ble_eq_true rfl) ⟨Nat.le_of_ble_eq_true rfl, Nat.le_of_ble_eq_true rfl⟩ dX6_copy_84 ⟨Nat.le_of_ble_eq_true rfl, Nat.le_of_ble_eq_true rfl⟩ (fun r_84 H3 locs3 hr_84 hP3 hS3 => ?_)
                have hD3 := hD2
                clear hP2 hD2 hS2 locs2 H2
                subst hr_84
                refine lb_eq (tgt := 102) hx hb dX6_copy_87 (by decide) (fun c_87 => ?_) (fun c_87 => ?_)
                · replace hP3 : va_P D vwCl ([sO cy hh a kk dd b w ee qq ik, ia cy (hh 1) 7 C] ++ (shB cy qq bi si f)) H3 := hP3
                  replace hD3 : va_D (va_A _ sz) ([sO cy hh a kk dd b w ee qq ik, ia cy (hh 1) 7 C] ++ (shB cy qq bi si f)) := hD3
                  refine lv_aload_n hx hb dX6_copy_102 rfl (lv_at hl2 2 rfl) ?_
                  refine lv_iconst (v := 0) hx hb dX6_copy_103 (by decide) ?_
                  refine cV_i (wc := [sO cy hh a kk dd b w ee qq ik, ia cy (hh 1) 7 C]) (wr := shB cy qq bi si f) (rest := []) hx hb hml hown hw hG hK hP3 hD3 hS3 hA hl2 kc_X6_find kw_2_59 [.int 0] (c_X6_find l D cy G H3.size hh a kk dd b w ee qq ik C 0 (by first | omega | assumption)) [0, 1] [2, 3, 4, 5, 6, 7, 8, 9, 10] rfl rfl rfl rfl rfl 0 rfl rfl rfl rfl rfl (Nat.le_of_ble_eq_true rfl) ⟨Nat.le_of_ble_eq_true rfl, Nat.le_of_ble_eq_true rfl⟩ dX6_copy_104 ⟨Nat.le_of_ble_eq_true rfl, Nat.le_of_ble_eq_true rfl⟩ (fun r_104 u9 H4 locs4 hu9 hP4 hD4 hS4 => ?_)
                  clear hP3 hD3 hS3 locs3 H3
                  have hr_104 := hu9
                  replace hP4 : va_P D vwCl (shB cy qq bi si f ++ ([sO cy hh a kk dd b w ee qq ik, ia cy (hh 1) 7 (upd C 0 (C 0 + 1))])) H4 := hP4
                  replace hD4 : va_D (va_A _ sz) (shB cy qq bi si f ++ ([sO cy hh a kk dd b w ee qq ik, ia cy (hh 1) 7 (upd C 0 (C 0 + 1))])) := hD4
                  replace hP4 := hP4.sub (ws' := [sO cy hh a kk dd b w ee qq ik, ia cy (hh 1) 7 (upd C 0 (C 0 + 1))] ++ (shB cy qq bi si f)) [9, 10, 0, 1, 2, 3, 4, 5, 6, 7, 8] rfl
                  replace hD4 := hD4.sub (ws' := [sO cy hh a kk dd b w ee qq ik, ia cy (hh 1) 7 (upd C 0 (C 0 + 1))] ++ (shB cy qq bi si f)) [9, 10, 0, 1, 2, 3, 4, 5, 6, 7, 8] (by decide) rfl
                  subst hr_104
                  have hcd : cCopy bi si 0 x2 0 x4 x5 = 0 := by unfold cCopy; clear hx hb hml hown hr hlocks hw hsz hA hG hK hP4 hD4 hS4 hl2; grind
                  have hq9 : ([sO cy hh a kk dd b w ee qq ik, ia cy (hh 1) 7 (upd C 0 (C 0 + 1))] ++ (shB cy qq bi si f)) = ([sO cy hh a kk dd b w ee qq ik, ia cy (hh 1) 7 (fnd C (cCopy bi si 0 x2 0 x4 x5))] ++ (shB cy qq bi si f)) := congrArg (fun z9 => [sO cy hh a kk dd b w ee qq ik, ia cy (hh 1) 7 z9] ++ (shB cy qq bi si f)) (show (upd C 0 (C 0 + 1)) = (fnd C (cCopy bi si 0 x2 0 x4 x5)) from fnd_f hcd (by decide))
                  replace hP4 := (congrArg (fun z9 => va_P D vwCl z9 _) hq9).mp hP4
                  replace hD4 := (congrArg (fun z9 => va_D _ z9) hq9).mp hD4
                  clear hq9
                  have hq9 : ([sO cy hh a kk dd b w ee qq ik, ia cy (hh 1) 7 (fnd C (cCopy bi si 0 x2 0 x4 x5))] ++ (shB cy qq bi si f)) = ([sO cy hh a kk dd b w ee qq ik, ia cy (hh 1) 7 (fnd C (cCopy bi si 0 x2 0 x4 x5))] ++ (shB cy qq bi si (if cCopy bi si 0 x2 0 x4 x5 = 7 then va_up f (bstN 0) (va_cpy (f (bstN 0)) (f (bstN 0)) (bstN x2) (bstN x4) (bstN x5)) else f))) := congrArg (fun z9 => [sO cy hh a kk dd b w ee qq ik, ia cy (hh 1) 7 (fnd C (cCopy bi si 0 x2 0 x4 x5))] ++ (shB cy qq bi si z9)) (show f = (if cCopy bi si 0 x2 0 x4 x5 = 7 then va_up f (bstN 0) (va_cpy (f (bstN 0)) (f (bstN 0)) (bstN x2) (bstN x4) (bstN x5)) else f) from (if_neg (fun z9 => absurd (hcd.symm.trans z9) (by decide))).symm)
                  replace hP4 := (congrArg (fun z9 => va_P D vwCl z9 _) hq9).mp hP4
                  replace hD4 := (congrArg (fun z9 => va_D _ z9) hq9).mp hD4
                  clear hq9
                  refine re_i () hx hb hr hlocks hP4 hD4 hS4 dX6_copy_107 ?_
                  exact (ans_f hcd (by decide) rfl)
                · refine lv_aload hx hb dX6_copy_90 (lv_at hl2 0 rfl) ?_
                  refine lv_iload hx hb dX6_copy_92 (lv_at hl2 6 rfl) ?_
                  refine lv_iload hx hb dX6_copy_94 (lv_at hl2 7 rfl) ?_
                  refine rV_i (wc := [hO cy (qq 1) (qq 5) (bi 0) (si 0), la cy (qq 5) 40 (f 0)]) (rest := []) hx hb hml hown hw hG hK hP3 hS3 hA hl2 kc_X2_hasRow kw_4_12 [.int x4, .int x5] (c_X2_hasRow l D cy G H3.size (qq 1) (qq 5) (bi 0) (si 0) (f 0) x4 x5) [3, 7] rfl 0 rfl rfl rfl rfl rfl (Nat.le_of_ble_eq_true rfl) ⟨Nat.le_of_ble_eq_true rfl, Nat.le_of_ble_eq_true rfl⟩ dX6_copy_96 ⟨Nat.le_of_ble_eq_true rfl, Nat.le_of_ble_eq_true rfl⟩ (fun r_96 H4 locs4 hr_96 hP4 hS4 => ?_)
                  have hD4 := hD3
                  clear hP3 hD3 hS3 locs3 H3
                  subst hr_96
                  refine lb_ne (tgt := 108) hx hb dX6_copy_99 (by decide) (fun c_99 => ?_) (fun c_99 => ?_)
                  · have h8 := c_87
                    rw [(hso 0 (by decide)).1] at h8
                    have h9 := c_99
                    rw [(hso 0 (by decide)).1] at h9
                    obtain ⟨a1, n1, hab, rfl, rfl⟩ := row_at (by omega) h8
                    obtain ⟨a2, n2, hab2, rfl, e4⟩ := row_at (by omega) h9
                    obtain rfl : n1 = n2 := (nI_eq (by omega) (by omega)).mp e4
                    have hba1 : bstN (nI a1) = a1 := bst_n (by omega)
                    have hba2 : bstN (nI a2) = a2 := bst_n (by omega)
                    have hbn : bstN (nI n1) = n1 := bst_n (by omega)
                    refine lv_aload hx hb dX6_copy_108 (lv_at hl2 1 rfl) ?_
                    refine va_get (D := D) (ci := 2) (v := .ref (qq 5)) (C := RX2) (T := TX2) (N := 3) hx hb hw iX2 hown hK hP4 3 rfl rfl 0 (by decide) (hw _ kw_2_14) (fun _ h9 => h9) rfl dX6_copy_110 ?_
                    refine lv_iload_n hx hb dX6_copy_113 rfl (lv_at hl2 4 rfl) ?_
                    refine lv_aload hx hb dX6_copy_114 (lv_at hl2 0 rfl) ?_
                    refine va_get (D := D) (ci := 2) (v := .ref (qq 5)) (C := RX2) (T := TX2) (N := 3) hx hb hw iX2 hown hK hP4 3 rfl rfl 0 (by decide) (hw _ kw_2_14) (fun _ h9 => h9) rfl dX6_copy_116 ?_
                    refine lv_iload hx hb dX6_copy_119 (lv_at hl2 6 rfl) ?_
                    refine lv_iload hx hb dX6_copy_121 (lv_at hl2 7 rfl) ?_
                    refine acpL (f := f 0) (g := f 0) (ws' := [sO cy hh a kk dd b w ee qq ik, ia cy (hh 1) 7 C, qsB cy qq, hO cy (qq 1) (qq 5) (bi 0) (si 0), hO cy (qq 2) (qq 6) (bi 1) (si 1), hO cy (qq 3) (qq 7) (bi 2) (si 2), hO cy (qq 4) (qq 8) (bi 3) (si 3), la cy (qq 5) 40 (va_cpy (f 0) (f 0) a1 a2 n1), la cy (qq 6) 40 (f 1), la cy (qq 7) 40 (f 2), la cy (qq 8) 40 (f 3)]) hx hb hml hl2 hw hown kw_4_16 kw_2_162 kw_2_161 kw_1_9 hK hP4 hD4 hS4 7 7 1 rfl rfl rfl a1 a2 n1 rfl rfl rfl (by omega) (by omega) (by omega) (by first | decide | omega) (by first | decide | omega) rfl (Nat.le_of_ble_eq_true rfl) (Nat.le_of_ble_eq_true rfl) dX6_copy_123 (fun H5 locs5 hP5 hD5 hS5 => ?_)
                    clear hP4 hD4 hS4 locs4 H4
                    replace hP5 : va_P D vwCl ([sO cy hh a kk dd b w ee qq ik, ia cy (hh 1) 7 C] ++ (shB cy qq bi si (va_up f 0 (va_cpy (f 0) (f 0) a1 a2 n1)))) H5 := hP5
                    replace hD5 : va_D (va_A _ sz) ([sO cy hh a kk dd b w ee qq ik, ia cy (hh 1) 7 C] ++ (shB cy qq bi si (va_up f 0 (va_cpy (f 0) (f 0) a1 a2 n1)))) := hD5
                    refine lv_iload hx hb dX6_copy_126 (lv_at hl2 7 rfl) ?_
                    have hcd : cCopy bi si 0 (nI a1) 0 (nI a2) (nI n1) = 7 := by unfold cCopy; clear hx hb hml hown hr hlocks hw hsz hA hG hK hP5 hD5 hS5 hl2; grind
                    have hq9 : ([sO cy hh a kk dd b w ee qq ik, ia cy (hh 1) 7 C] ++ (shB cy qq bi si (va_up f 0 (va_cpy (f 0) (f 0) a1 a2 n1)))) = ([sO cy hh a kk dd b w ee qq ik, ia cy (hh 1) 7 (fnd C (cCopy bi si 0 (nI a1) 0 (nI a2) (nI n1)))] ++ (shB cy qq bi si (va_up f 0 (va_cpy (f 0) (f 0) a1 a2 n1)))) := congrArg (fun z9 => [sO cy hh a kk dd b w ee qq ik, ia cy (hh 1) 7 z9] ++ (shB cy qq bi si (va_up f 0 (va_cpy (f 0) (f 0) a1 a2 n1)))) (show C = (fnd C (cCopy bi si 0 (nI a1) 0 (nI a2) (nI n1))) from fnd_o hcd)
                    replace hP5 := (congrArg (fun z9 => va_P D vwCl z9 _) hq9).mp hP5
                    replace hD5 := (congrArg (fun z9 => va_D _ z9) hq9).mp hD5
                    clear hq9
                    have hq9 : ([sO cy hh a kk dd b w ee qq ik, ia cy (hh 1) 7 (fnd C (cCopy bi si 0 (nI a1) 0 (nI a2) (nI n1)))] ++ (shB cy qq bi si (va_up f 0 (va_cpy (f 0) (f 0) a1 a2 n1)))) = ([sO cy hh a kk dd b w ee qq ik, ia cy (hh 1) 7 (fnd C (cCopy bi si 0 (nI a1) 0 (nI a2) (nI n1)))] ++ (shB cy qq bi si (if cCopy bi si 0 (nI a1) 0 (nI a2) (nI n1) = 7 then va_up f (bstN 0) (va_cpy (f (bstN 0)) (f (bstN 0)) (bstN (nI a1)) (bstN (nI a2)) (bstN (nI n1))) else f))) := congrArg (fun z9 => [sO cy hh a kk dd b w ee qq ik, ia cy (hh 1) 7 (fnd C (cCopy bi si 0 (nI a1) 0 (nI a2) (nI n1)))] ++ (shB cy qq bi si z9)) (show (va_up f 0 (va_cpy (f 0) (f 0) a1 a2 n1)) = (if cCopy bi si 0 (nI a1) 0 (nI a2) (nI n1) = 7 then va_up f (bstN 0) (va_cpy (f (bstN 0)) (f (bstN 0)) (bstN (nI a1)) (bstN (nI a2)) (bstN (nI n1))) else f) from by rw [if_pos hcd]; simp only [hba1, hba2, hbn, hb0, hb1, hb2, hb3])
                    replace hP5 := (congrArg (fun z9 => va_P D vwCl z9 _) hq9).mp hP5
                    replace hD5 := (congrArg (fun z9 => va_D _ z9) hq9).mp hD5
                    clear hq9
                    refine re_i () hx hb hr hlocks hP5 hD5 hS5 dX6_copy_128 ?_
                    exact (ans_o hcd (rfl))
                  · replace hP4 : va_P D vwCl ([sO cy hh a kk dd b w ee qq ik, ia cy (hh 1) 7 C] ++ (shB cy qq bi si f)) H4 := hP4
                    replace hD4 : va_D (va_A _ sz) ([sO cy hh a kk dd b w ee qq ik, ia cy (hh 1) 7 C] ++ (shB cy qq bi si f)) := hD4
                    refine lv_aload_n hx hb dX6_copy_102 rfl (lv_at hl2 2 rfl) ?_
                    refine lv_iconst (v := 0) hx hb dX6_copy_103 (by decide) ?_
                    refine cV_i (wc := [sO cy hh a kk dd b w ee qq ik, ia cy (hh 1) 7 C]) (wr := shB cy qq bi si f) (rest := []) hx hb hml hown hw hG hK hP4 hD4 hS4 hA hl2 kc_X6_find kw_2_59 [.int 0] (c_X6_find l D cy G H4.size hh a kk dd b w ee qq ik C 0 (by first | omega | assumption)) [0, 1] [2, 3, 4, 5, 6, 7, 8, 9, 10] rfl rfl rfl rfl rfl 0 rfl rfl rfl rfl rfl (Nat.le_of_ble_eq_true rfl) ⟨Nat.le_of_ble_eq_true rfl, Nat.le_of_ble_eq_true rfl⟩ dX6_copy_104 ⟨Nat.le_of_ble_eq_true rfl, Nat.le_of_ble_eq_true rfl⟩ (fun r_104 u9 H5 locs5 hu9 hP5 hD5 hS5 => ?_)
                    clear hP4 hD4 hS4 locs4 H4
                    have hr_104 := hu9
                    replace hP5 : va_P D vwCl (shB cy qq bi si f ++ ([sO cy hh a kk dd b w ee qq ik, ia cy (hh 1) 7 (upd C 0 (C 0 + 1))])) H5 := hP5
                    replace hD5 : va_D (va_A _ sz) (shB cy qq bi si f ++ ([sO cy hh a kk dd b w ee qq ik, ia cy (hh 1) 7 (upd C 0 (C 0 + 1))])) := hD5
                    replace hP5 := hP5.sub (ws' := [sO cy hh a kk dd b w ee qq ik, ia cy (hh 1) 7 (upd C 0 (C 0 + 1))] ++ (shB cy qq bi si f)) [9, 10, 0, 1, 2, 3, 4, 5, 6, 7, 8] rfl
                    replace hD5 := hD5.sub (ws' := [sO cy hh a kk dd b w ee qq ik, ia cy (hh 1) 7 (upd C 0 (C 0 + 1))] ++ (shB cy qq bi si f)) [9, 10, 0, 1, 2, 3, 4, 5, 6, 7, 8] (by decide) rfl
                    subst hr_104
                    have hcd : cCopy bi si 0 x2 0 x4 x5 = 0 := by unfold cCopy; clear hx hb hml hown hr hlocks hw hsz hA hG hK hP5 hD5 hS5 hl2; grind
                    have hq9 : ([sO cy hh a kk dd b w ee qq ik, ia cy (hh 1) 7 (upd C 0 (C 0 + 1))] ++ (shB cy qq bi si f)) = ([sO cy hh a kk dd b w ee qq ik, ia cy (hh 1) 7 (fnd C (cCopy bi si 0 x2 0 x4 x5))] ++ (shB cy qq bi si f)) := congrArg (fun z9 => [sO cy hh a kk dd b w ee qq ik, ia cy (hh 1) 7 z9] ++ (shB cy qq bi si f)) (show (upd C 0 (C 0 + 1)) = (fnd C (cCopy bi si 0 x2 0 x4 x5)) from fnd_f hcd (by decide))
                    replace hP5 := (congrArg (fun z9 => va_P D vwCl z9 _) hq9).mp hP5
                    replace hD5 := (congrArg (fun z9 => va_D _ z9) hq9).mp hD5
                    clear hq9
                    have hq9 : ([sO cy hh a kk dd b w ee qq ik, ia cy (hh 1) 7 (fnd C (cCopy bi si 0 x2 0 x4 x5))] ++ (shB cy qq bi si f)) = ([sO cy hh a kk dd b w ee qq ik, ia cy (hh 1) 7 (fnd C (cCopy bi si 0 x2 0 x4 x5))] ++ (shB cy qq bi si (if cCopy bi si 0 x2 0 x4 x5 = 7 then va_up f (bstN 0) (va_cpy (f (bstN 0)) (f (bstN 0)) (bstN x2) (bstN x4) (bstN x5)) else f))) := congrArg (fun z9 => [sO cy hh a kk dd b w ee qq ik, ia cy (hh 1) 7 (fnd C (cCopy bi si 0 x2 0 x4 x5))] ++ (shB cy qq bi si z9)) (show f = (if cCopy bi si 0 x2 0 x4 x5 = 7 then va_up f (bstN 0) (va_cpy (f (bstN 0)) (f (bstN 0)) (bstN x2) (bstN x4) (bstN x5)) else f) from (if_neg (fun z9 => absurd (hcd.symm.trans z9) (by decide))).symm)
                    replace hP5 := (congrArg (fun z9 => va_P D vwCl z9 _) hq9).mp hP5
                    replace hD5 := (congrArg (fun z9 => va_D _ z9) hq9).mp hD5
                    clear hq9
                    refine re_i () hx hb hr hlocks hP5 hD5 hS5 dX6_copy_107 ?_
                    exact (ans_f hcd (by decide) rfl)
              · replace hP2 : va_P D vwCl ([sO cy hh a kk dd b w ee qq ik, ia cy (hh 1) 7 C] ++ (shB cy qq bi si f)) H2 := hP2
                replace hD2 : va_D (va_A _ sz) ([sO cy hh a kk dd b w ee qq ik, ia cy (hh 1) 7 C] ++ (shB cy qq bi si f)) := hD2
                refine lv_aload_n hx hb dX6_copy_73 rfl (lv_at hl2 2 rfl) ?_
                refine lv_iconst (v := 2) hx hb dX6_copy_74 (by decide) ?_
                refine cV_i (wc := [sO cy hh a kk dd b w ee qq ik, ia cy (hh 1) 7 C]) (wr := shB cy qq bi si f) (rest := []) hx hb hml hown hw hG hK hP2 hD2 hS2 hA hl2 kc_X6_find kw_2_59 [.int 2] (c_X6_find l D cy G H2.size hh a kk dd b w ee qq ik C 2 (by first | omega | assumption)) [0, 1] [2, 3, 4, 5, 6, 7, 8, 9, 10] rfl rfl rfl rfl rfl 0 rfl rfl rfl rfl rfl (Nat.le_of_ble_eq_true rfl) ⟨Nat.le_of_ble_eq_true rfl, Nat.le_of_ble_eq_true rfl⟩ dX6_copy_75 ⟨Nat.le_of_ble_eq_true rfl, Nat.le_of_ble_eq_true rfl⟩ (fun r_75 u9 H3 locs3 hu9 hP3 hD3 hS3 => ?_)
                clear hP2 hD2 hS2 locs2 H2
                have hr_75 := hu9
                replace hP3 : va_P D vwCl (shB cy qq bi si f ++ ([sO cy hh a kk dd b w ee qq ik, ia cy (hh 1) 7 (upd C 2 (C 2 + 1))])) H3 := hP3
                replace hD3 : va_D (va_A _ sz) (shB cy qq bi si f ++ ([sO cy hh a kk dd b w ee qq ik, ia cy (hh 1) 7 (upd C 2 (C 2 + 1))])) := hD3
                replace hP3 := hP3.sub (ws' := [sO cy hh a kk dd b w ee qq ik, ia cy (hh 1) 7 (upd C 2 (C 2 + 1))] ++ (shB cy qq bi si f)) [9, 10, 0, 1, 2, 3, 4, 5, 6, 7, 8] rfl
                replace hD3 := hD3.sub (ws' := [sO cy hh a kk dd b w ee qq ik, ia cy (hh 1) 7 (upd C 2 (C 2 + 1))] ++ (shB cy qq bi si f)) [9, 10, 0, 1, 2, 3, 4, 5, 6, 7, 8] (by decide) rfl
                subst hr_75
                have hcd : cCopy bi si 0 x2 0 x4 x5 = 2 := by unfold cCopy; clear hx hb hml hown hr hlocks hw hsz hA hG hK hP3 hD3 hS3 hl2; grind
                have hq9 : ([sO cy hh a kk dd b w ee qq ik, ia cy (hh 1) 7 (upd C 2 (C 2 + 1))] ++ (shB cy qq bi si f)) = ([sO cy hh a kk dd b w ee qq ik, ia cy (hh 1) 7 (fnd C (cCopy bi si 0 x2 0 x4 x5))] ++ (shB cy qq bi si f)) := congrArg (fun z9 => [sO cy hh a kk dd b w ee qq ik, ia cy (hh 1) 7 z9] ++ (shB cy qq bi si f)) (show (upd C 2 (C 2 + 1)) = (fnd C (cCopy bi si 0 x2 0 x4 x5)) from fnd_f hcd (by decide))
                replace hP3 := (congrArg (fun z9 => va_P D vwCl z9 _) hq9).mp hP3
                replace hD3 := (congrArg (fun z9 => va_D _ z9) hq9).mp hD3
                clear hq9
                have hq9 : ([sO cy hh a kk dd b w ee qq ik, ia cy (hh 1) 7 (fnd C (cCopy bi si 0 x2 0 x4 x5))] ++ (shB cy qq bi si f)) = ([sO cy hh a kk dd b w ee qq ik, ia cy (hh 1) 7 (fnd C (cCopy bi si 0 x2 0 x4 x5))] ++ (shB cy qq bi si (if cCopy bi si 0 x2 0 x4 x5 = 7 then va_up f (bstN 0) (va_cpy (f (bstN 0)) (f (bstN 0)) (bstN x2) (bstN x4) (bstN x5)) else f))) := congrArg (fun z9 => [sO cy hh a kk dd b w ee qq ik, ia cy (hh 1) 7 (fnd C (cCopy bi si 0 x2 0 x4 x5))] ++ (shB cy qq bi si z9)) (show f = (if cCopy bi si 0 x2 0 x4 x5 = 7 then va_up f (bstN 0) (va_cpy (f (bstN 0)) (f (bstN 0)) (bstN x2) (bstN x4) (bstN x5)) else f) from (if_neg (fun z9 => absurd (hcd.symm.trans z9) (by decide))).symm)
                replace hP3 := (congrArg (fun z9 => va_P D vwCl z9 _) hq9).mp hP3
                replace hD3 := (congrArg (fun z9 => va_D _ z9) hq9).mp hD3
                clear hq9
                refine re_i () hx hb hr hlocks hP3 hD3 hS3 dX6_copy_78 ?_
                exact (ans_f hcd (by decide) rfl)
            · replace hP2 : va_P D vwCl ([sO cy hh a kk dd b w ee qq ik, ia cy (hh 1) 7 C] ++ (shB cy qq bi si f)) H2 := hP2
              replace hD2 : va_D (va_A _ sz) ([sO cy hh a kk dd b w ee qq ik, ia cy (hh 1) 7 C] ++ (shB cy qq bi si f)) := hD2
              refine lv_aload_n hx hb dX6_copy_54 rfl (lv_at hl2 2 rfl) ?_
              refine lv_iconst (v := 5) hx hb dX6_copy_55 (by decide) ?_
              refine cV_i (wc := [sO cy hh a kk dd b w ee qq ik, ia cy (hh 1) 7 C]) (wr := shB cy qq bi si f) (rest := []) hx hb hml hown hw hG hK hP2 hD2 hS2 hA hl2 kc_X6_find kw_2_59 [.int 5] (c_X6_find l D cy G H2.size hh a kk dd b w ee qq ik C 5 (by first | omega | assumption)) [0, 1] [2, 3, 4, 5, 6, 7, 8, 9, 10] rfl rfl rfl rfl rfl 0 rfl rfl rfl rfl rfl (Nat.le_of_ble_eq_true rfl) ⟨Nat.le_of_ble_eq_true rfl, Nat.le_of_ble_eq_true rfl⟩ dX6_copy_56 ⟨Nat.le_of_ble_eq_true rfl, Nat.le_of_ble_eq_true rfl⟩ (fun r_56 u9 H3 locs3 hu9 hP3 hD3 hS3 => ?_)
              clear hP2 hD2 hS2 locs2 H2
              have hr_56 := hu9
              replace hP3 : va_P D vwCl (shB cy qq bi si f ++ ([sO cy hh a kk dd b w ee qq ik, ia cy (hh 1) 7 (upd C 5 (C 5 + 1))])) H3 := hP3
              replace hD3 : va_D (va_A _ sz) (shB cy qq bi si f ++ ([sO cy hh a kk dd b w ee qq ik, ia cy (hh 1) 7 (upd C 5 (C 5 + 1))])) := hD3
              replace hP3 := hP3.sub (ws' := [sO cy hh a kk dd b w ee qq ik, ia cy (hh 1) 7 (upd C 5 (C 5 + 1))] ++ (shB cy qq bi si f)) [9, 10, 0, 1, 2, 3, 4, 5, 6, 7, 8] rfl
              replace hD3 := hD3.sub (ws' := [sO cy hh a kk dd b w ee qq ik, ia cy (hh 1) 7 (upd C 5 (C 5 + 1))] ++ (shB cy qq bi si f)) [9, 10, 0, 1, 2, 3, 4, 5, 6, 7, 8] (by decide) rfl
              subst hr_56
              have hcd : cCopy bi si 0 x2 0 x4 x5 = 5 := by unfold cCopy; clear hx hb hml hown hr hlocks hw hsz hA hG hK hP3 hD3 hS3 hl2; grind
              have hq9 : ([sO cy hh a kk dd b w ee qq ik, ia cy (hh 1) 7 (upd C 5 (C 5 + 1))] ++ (shB cy qq bi si f)) = ([sO cy hh a kk dd b w ee qq ik, ia cy (hh 1) 7 (fnd C (cCopy bi si 0 x2 0 x4 x5))] ++ (shB cy qq bi si f)) := congrArg (fun z9 => [sO cy hh a kk dd b w ee qq ik, ia cy (hh 1) 7 z9] ++ (shB cy qq bi si f)) (show (upd C 5 (C 5 + 1)) = (fnd C (cCopy bi si 0 x2 0 x4 x5)) from fnd_f hcd (by decide))
              replace hP3 := (congrArg (fun z9 => va_P D vwCl z9 _) hq9).mp hP3
              replace hD3 := (congrArg (fun z9 => va_D _ z9) hq9).mp hD3
              clear hq9
              have hq9 : ([sO cy hh a kk dd b w ee qq ik, ia cy (hh 1) 7 (fnd C (cCopy bi si 0 x2 0 x4 x5))] ++ (shB cy qq bi si f)) = ([sO cy hh a kk dd b w ee qq ik, ia cy (hh 1) 7 (fnd C (cCopy bi si 0 x2 0 x4 x5))] ++ (shB cy qq bi si (if cCopy bi si 0 x2 0 x4 x5 = 7 then va_up f (bstN 0) (va_cpy (f (bstN 0)) (f (bstN 0)) (bstN x2) (bstN x4) (bstN x5)) else f))) := congrArg (fun z9 => [sO cy hh a kk dd b w ee qq ik, ia cy (hh 1) 7 (fnd C (cCopy bi si 0 x2 0 x4 x5))] ++ (shB cy qq bi si z9)) (show f = (if cCopy bi si 0 x2 0 x4 x5 = 7 then va_up f (bstN 0) (va_cpy (f (bstN 0)) (f (bstN 0)) (bstN x2) (bstN x4) (bstN x5)) else f) from (if_neg (fun z9 => absurd (hcd.symm.trans z9) (by decide))).symm)
              replace hP3 := (congrArg (fun z9 => va_P D vwCl z9 _) hq9).mp hP3
              replace hD3 := (congrArg (fun z9 => va_D _ z9) hq9).mp hD3
              clear hq9
              refine re_i () hx hb hr hlocks hP3 hD3 hS3 dX6_copy_59 ?_
              exact (ans_f hcd (by decide) rfl)
        · refine lv_iload_n hx hb dX6_copy_34 rfl (lv_at hl1 4 rfl) ?_
          refine ald_q hx hb hK hP2 2 3 rfl rfl rfl 1 rfl (by first | omega | assumption) (by decide) (rfl) dX6_copy_35 ?_
          refine lv_astore (lv' := [(7, .ref (qq 2)), (6, .ref (qq 1)), (0, .ref (hh 0)), (1, .int 0), (2, .int x2), (3, .int 1), (4, .int x4), (5, .int x5)]) hx hb dX6_copy_36 hl1 (by decide) rfl (fun ls2 hl2 => ?_)
          clear hl1 ls1
          refine lv_aload hx hb dX6_copy_38 (lv_at hl2 1 rfl) ?_
          refine va_get (D := D) (ci := 2) (v := .int (bi 0)) (C := RX2) (T := TX2) (N := 3) hx hb hw iX2 hown hK hP2 3 rfl rfl 1 (by decide) (hw _ kw_2_16) (fun _ h9 => h9) rfl dX6_copy_40 ?_
          refine lv_if_eq (tgt := 54) hx hb dX6_copy_43 (by decide) (fun c_43 => ?_) (fun c_43 => ?_)
          · replace hP2 : va_P D vwCl ([sO cy hh a kk dd b w ee qq ik, ia cy (hh 1) 7 C] ++ (shB cy qq bi si f)) H2 := hP2
            replace hD2 : va_D (va_A _ sz) ([sO cy hh a kk dd b w ee qq ik, ia cy (hh 1) 7 C] ++ (shB cy qq bi si f)) := hD2
            refine lv_aload_n hx hb dX6_copy_54 rfl (lv_at hl2 2 rfl) ?_
            refine lv_iconst (v := 5) hx hb dX6_copy_55 (by decide) ?_
            refine cV_i (wc := [sO cy hh a kk dd b w ee qq ik, ia cy (hh 1) 7 C]) (wr := shB cy qq bi si f) (rest := []) hx hb hml hown hw hG hK hP2 hD2 hS2 hA hl2 kc_X6_find kw_2_59 [.int 5] (c_X6_find l D cy G H2.size hh a kk dd b w ee qq ik C 5 (by first | omega | assumption)) [0, 1] [2, 3, 4, 5, 6, 7, 8, 9, 10] rfl rfl rfl rfl rfl 0 rfl rfl rfl rfl rfl (Nat.le_of_ble_eq_true rfl) ⟨Nat.le_of_ble_eq_true rfl, Nat.le_of_ble_eq_true rfl⟩ dX6_copy_56 ⟨Nat.le_of_ble_eq_true rfl, Nat.le_of_ble_eq_true rfl⟩ (fun r_56 u9 H3 locs3 hu9 hP3 hD3 hS3 => ?_)
            clear hP2 hD2 hS2 locs2 H2
            have hr_56 := hu9
            replace hP3 : va_P D vwCl (shB cy qq bi si f ++ ([sO cy hh a kk dd b w ee qq ik, ia cy (hh 1) 7 (upd C 5 (C 5 + 1))])) H3 := hP3
            replace hD3 : va_D (va_A _ sz) (shB cy qq bi si f ++ ([sO cy hh a kk dd b w ee qq ik, ia cy (hh 1) 7 (upd C 5 (C 5 + 1))])) := hD3
            replace hP3 := hP3.sub (ws' := [sO cy hh a kk dd b w ee qq ik, ia cy (hh 1) 7 (upd C 5 (C 5 + 1))] ++ (shB cy qq bi si f)) [9, 10, 0, 1, 2, 3, 4, 5, 6, 7, 8] rfl
            replace hD3 := hD3.sub (ws' := [sO cy hh a kk dd b w ee qq ik, ia cy (hh 1) 7 (upd C 5 (C 5 + 1))] ++ (shB cy qq bi si f)) [9, 10, 0, 1, 2, 3, 4, 5, 6, 7, 8] (by decide) rfl
            subst hr_56
            have hcd : cCopy bi si 0 x2 1 x4 x5 = 5 := by unfold cCopy; clear hx hb hml hown hr hlocks hw hsz hA hG hK hP3 hD3 hS3 hl2; grind
            have hq9 : ([sO cy hh a kk dd b w ee qq ik, ia cy (hh 1) 7 (upd C 5 (C 5 + 1))] ++ (shB cy qq bi si f)) = ([sO cy hh a kk dd b w ee qq ik, ia cy (hh 1) 7 (fnd C (cCopy bi si 0 x2 1 x4 x5))] ++ (shB cy qq bi si f)) := congrArg (fun z9 => [sO cy hh a kk dd b w ee qq ik, ia cy (hh 1) 7 z9] ++ (shB cy qq bi si f)) (show (upd C 5 (C 5 + 1)) = (fnd C (cCopy bi si 0 x2 1 x4 x5)) from fnd_f hcd (by decide))
            replace hP3 := (congrArg (fun z9 => va_P D vwCl z9 _) hq9).mp hP3
            replace hD3 := (congrArg (fun z9 => va_D _ z9) hq9).mp hD3
            clear hq9
            have hq9 : ([sO cy hh a kk dd b w ee qq ik, ia cy (hh 1) 7 (fnd C (cCopy bi si 0 x2 1 x4 x5))] ++ (shB cy qq bi si f)) = ([sO cy hh a kk dd b w ee qq ik, ia cy (hh 1) 7 (fnd C (cCopy bi si 0 x2 1 x4 x5))] ++ (shB cy qq bi si (if cCopy bi si 0 x2 1 x4 x5 = 7 then va_up f (bstN 1) (va_cpy (f (bstN 0)) (f (bstN 1)) (bstN x2) (bstN x4) (bstN x5)) else f))) := congrArg (fun z9 => [sO cy hh a kk dd b w ee qq ik, ia cy (hh 1) 7 (fnd C (cCopy bi si 0 x2 1 x4 x5))] ++ (shB cy qq bi si z9)) (show f = (if cCopy bi si 0 x2 1 x4 x5 = 7 then va_up f (bstN 1) (va_cpy (f (bstN 0)) (f (bstN 1)) (bstN x2) (bstN x4) (bstN x5)) else f) from (if_neg (fun z9 => absurd (hcd.symm.trans z9) (by decide))).symm)
            replace hP3 := (congrArg (fun z9 => va_P D vwCl z9 _) hq9).mp hP3
            replace hD3 := (congrArg (fun z9 => va_D _ z9) hq9).mp hD3
            clear hq9
            refine re_i () hx hb hr hlocks hP3 hD3 hS3 dX6_copy_59 ?_
            exact (ans_f hcd (by decide) rfl)
          · refine lv_aload hx hb dX6_copy_46 (lv_at hl2 0 rfl) ?_
            refine va_get (D := D) (ci := 2) (v := .int (bi 1)) (C := RX2) (T := TX2) (N := 3) hx hb hw iX2 hown hK hP2 4 rfl rfl 1 (by decide) (hw _ kw_2_16) (fun _ h9 => h9) rfl dX6_copy_48 ?_
            refine lv_if_ne (tgt := 60) hx hb dX6_copy_51 (by decide) (fun c_51 => ?_) (fun c_51 => ?_)
            · refine lv_aload hx hb dX6_copy_60 (lv_at hl2 1 rfl) ?_
              refine va_get (D := D) (ci := 2) (v := .int (bi 0)) (C := RX2) (T := TX2) (N := 3) hx hb hw iX2 hown hK hP2 3 rfl rfl 1 (by decide) (hw _ kw_2_16) (fun _ h9 => h9) rfl dX6_copy_62 ?_
              refine lv_aload hx hb dX6_copy_65 (lv_at hl2 0 rfl) ?_
              refine va_get (D := D) (ci := 2) (v := .int (bi 1)) (C := RX2) (T := TX2) (N := 3) hx hb hw iX2 hown hK hP2 4 rfl rfl 1 (by decide) (hw _ kw_2_16) (fun _ h9 => h9) rfl dX6_copy_67 ?_
              refine lv_icmp_eq (tgt := 79) hx hb dX6_copy_70 (by decide) (fun c_70 => ?_) (fun c_70 => ?_)
              · refine lv_aload hx hb dX6_copy_79 (lv_at hl2 1 rfl) ?_
                refine lv_iload_n hx hb dX6_copy_81 rfl (lv_at hl2 4 rfl) ?_
                refine lv_iload hx hb dX6_copy_82 (lv_at hl2 7 rfl) ?_
                refine rV_i (wc := [hO cy (qq 1) (qq 5) (bi 0) (si 0), la cy (qq 5) 40 (f 0)]) (rest := []) hx hb hml hown hw hG hK hP2 hS2 hA hl2 kc_X2_hasRow kw_4_12 [.int x2, .int x5] (c_X2_hasRow l D cy G H2.size (qq 1) (qq 5) (bi 0) (si 0) (f 0) x2 x5) [3, 7] rfl 0 rfl rfl rfl rfl rfl (Nat.le_of_ble_eq_true rfl) ⟨Nat.le_of_ble_eq_true rfl, Nat.le_of_ble_eq_true rfl⟩ dX6_copy_84 ⟨Nat.le_of_ble_eq_true rfl, Nat.le_of_ble_eq_true rfl⟩ (fun r_84 H3 locs3 hr_84 hP3 hS3 => ?_)
                have hD3 := hD2
                clear hP2 hD2 hS2 locs2 H2
                subst hr_84
                refine lb_eq (tgt := 102) hx hb dX6_copy_87 (by decide) (fun c_87 => ?_) (fun c_87 => ?_)
                · replace hP3 : va_P D vwCl ([sO cy hh a kk dd b w ee qq ik, ia cy (hh 1) 7 C] ++ (shB cy qq bi si f)) H3 := hP3
                  replace hD3 : va_D (va_A _ sz) ([sO cy hh a kk dd b w ee qq ik, ia cy (hh 1) 7 C] ++ (shB cy qq bi si f)) := hD3
                  refine lv_aload_n hx hb dX6_copy_102 rfl (lv_at hl2 2 rfl) ?_
                  refine lv_iconst (v := 0) hx hb dX6_copy_103 (by decide) ?_
                  refine cV_i (wc := [sO cy hh a kk dd b w ee qq ik, ia cy (hh 1) 7 C]) (wr := shB cy qq bi si f) (rest := []) hx hb hml hown hw hG hK hP3 hD3 hS3 hA hl2 kc_X6_find kw_2_59 [.int 0] (c_X6_find l D cy G H3.size hh a kk dd b w ee qq ik C 0 (by first | omega | assumption)) [0, 1] [2, 3, 4, 5, 6, 7, 8, 9, 10] rfl rfl rfl rfl rfl 0 rfl rfl rfl rfl rfl (Nat.le_of_ble_eq_true rfl) ⟨Nat.le_of_ble_eq_true rfl, Nat.le_of_ble_eq_true rfl⟩ dX6_copy_104 ⟨Nat.le_of_ble_eq_true rfl, Nat.le_of_ble_eq_true rfl⟩ (fun r_104 u9 H4 locs4 hu9 hP4 hD4 hS4 => ?_)
                  clear hP3 hD3 hS3 locs3 H3
                  have hr_104 := hu9
                  replace hP4 : va_P D vwCl (shB cy qq bi si f ++ ([sO cy hh a kk dd b w ee qq ik, ia cy (hh 1) 7 (upd C 0 (C 0 + 1))])) H4 := hP4
                  replace hD4 : va_D (va_A _ sz) (shB cy qq bi si f ++ ([sO cy hh a kk dd b w ee qq ik, ia cy (hh 1) 7 (upd C 0 (C 0 + 1))])) := hD4
                  replace hP4 := hP4.sub (ws' := [sO cy hh a kk dd b w ee qq ik, ia cy (hh 1) 7 (upd C 0 (C 0 + 1))] ++ (shB cy qq bi si f)) [9, 10, 0, 1, 2, 3, 4, 5, 6, 7, 8] rfl
                  replace hD4 := hD4.sub (ws' := [sO cy hh a kk dd b w ee qq ik, ia cy (hh 1) 7 (upd C 0 (C 0 + 1))] ++ (shB cy qq bi si f)) [9, 10, 0, 1, 2, 3, 4, 5, 6, 7, 8] (by decide) rfl
                  subst hr_104
                  have hcd : cCopy bi si 0 x2 1 x4 x5 = 0 := by unfold cCopy; clear hx hb hml hown hr hlocks hw hsz hA hG hK hP4 hD4 hS4 hl2; grind
                  have hq9 : ([sO cy hh a kk dd b w ee qq ik, ia cy (hh 1) 7 (upd C 0 (C 0 + 1))] ++ (shB cy qq bi si f)) = ([sO cy hh a kk dd b w ee qq ik, ia cy (hh 1) 7 (fnd C (cCopy bi si 0 x2 1 x4 x5))] ++ (shB cy qq bi si f)) := congrArg (fun z9 => [sO cy hh a kk dd b w ee qq ik, ia cy (hh 1) 7 z9] ++ (shB cy qq bi si f)) (show (upd C 0 (C 0 + 1)) = (fnd C (cCopy bi si 0 x2 1 x4 x5)) from fnd_f hcd (by decide))
                  replace hP4 := (congrArg (fun z9 => va_P D vwCl z9 _) hq9).mp hP4
                  replace hD4 := (congrArg (fun z9 => va_D _ z9) hq9).mp hD4
                  clear hq9
                  have hq9 : ([sO cy hh a kk dd b w ee qq ik, ia cy (hh 1) 7 (fnd C (cCopy bi si 0 x2 1 x4 x5))] ++ (shB cy qq bi si f)) = ([sO cy hh a kk dd b w ee qq ik, ia cy (hh 1) 7 (fnd C (cCopy bi si 0 x2 1 x4 x5))] ++ (shB cy qq bi si (if cCopy bi si 0 x2 1 x4 x5 = 7 then va_up f (bstN 1) (va_cpy (f (bstN 0)) (f (bstN 1)) (bstN x2) (bstN x4) (bstN x5)) else f))) := congrArg (fun z9 => [sO cy hh a kk dd b w ee qq ik, ia cy (hh 1) 7 (fnd C (cCopy bi si 0 x2 1 x4 x5))] ++ (shB cy qq bi si z9)) (show f = (if cCopy bi si 0 x2 1 x4 x5 = 7 then va_up f (bstN 1) (va_cpy (f (bstN 0)) (f (bstN 1)) (bstN x2) (bstN x4) (bstN x5)) else f) from (if_neg (fun z9 => absurd (hcd.symm.trans z9) (by decide))).symm)
                  replace hP4 := (congrArg (fun z9 => va_P D vwCl z9 _) hq9).mp hP4
                  replace hD4 := (congrArg (fun z9 => va_D _ z9) hq9).mp hD4
                  clear hq9
                  refine re_i () hx hb hr hlocks hP4 hD4 hS4 dX6_copy_107 ?_
                  exact (ans_f hcd (by decide) rfl)
                · refine lv_aload hx hb dX6_copy_90 (lv_at hl2 0 rfl) ?_
                  refine lv_iload hx hb dX6_copy_92 (lv_at hl2 6 rfl) ?_
                  refine lv_iload hx hb dX6_copy_94 (lv_at hl2 7 rfl) ?_
                  refine rV_i (wc := [hO cy (qq 2) (qq 6) (bi 1) (si 1), la cy (qq 6) 40 (f 1)]) (rest := []) hx hb hml hown hw hG hK hP3 hS3 hA hl2 kc_X2_hasRow kw_4_12 [.int x4, .int x5] (c_X2_hasRow l D cy G H3.size (qq 2) (qq 6) (bi 1) (si 1) (f 1) x4 x5) [4, 8] rfl 0 rfl rfl rfl rfl rfl (Nat.le_of_ble_eq_true rfl) ⟨Nat.le_of_ble_eq_true rfl, Nat.le_of_ble_eq_true rfl⟩ dX6_copy_96 ⟨Nat.le_of_ble_eq_true rfl, Nat.le_of_ble_eq_true rfl⟩ (fun r_96 H4 locs4 hr_96 hP4 hS4 => ?_)
                  have hD4 := hD3
                  clear hP3 hD3 hS3 locs3 H3
                  subst hr_96
                  refine lb_ne (tgt := 108) hx hb dX6_copy_99 (by decide) (fun c_99 => ?_) (fun c_99 => ?_)
                  · have h8 := c_87
                    rw [(hso 0 (by decide)).1] at h8
                    have h9 := c_99
                    rw [(hso 1 (by decide)).1] at h9
                    obtain ⟨a1, n1, hab, rfl, rfl⟩ := row_at (by omega) h8
                    obtain ⟨a2, n2, hab2, rfl, e4⟩ := row_at (by omega) h9
                    obtain rfl : n1 = n2 := (nI_eq (by omega) (by omega)).mp e4
                    have hba1 : bstN (nI a1) = a1 := bst_n (by omega)
                    have hba2 : bstN (nI a2) = a2 := bst_n (by omega)
                    have hbn : bstN (nI n1) = n1 := bst_n (by omega)
                    refine lv_aload hx hb dX6_copy_108 (lv_at hl2 1 rfl) ?_
                    refine va_get (D := D) (ci := 2) (v := .ref (qq 5)) (C := RX2) (T := TX2) (N := 3) hx hb hw iX2 hown hK hP4 3 rfl rfl 0 (by decide) (hw _ kw_2_14) (fun _ h9 => h9) rfl dX6_copy_110 ?_
                    refine lv_iload_n hx hb dX6_copy_113 rfl (lv_at hl2 4 rfl) ?_
                    refine lv_aload hx hb dX6_copy_114 (lv_at hl2 0 rfl) ?_
                    refine va_get (D := D) (ci := 2) (v := .ref (qq 6)) (C := RX2) (T := TX2) (N := 3) hx hb hw iX2 hown hK hP4 4 rfl rfl 0 (by decide) (hw _ kw_2_14) (fun _ h9 => h9) rfl dX6_copy_116 ?_
                    refine lv_iload hx hb dX6_copy_119 (lv_at hl2 6 rfl) ?_
                    refine lv_iload hx hb dX6_copy_121 (lv_at hl2 7 rfl) ?_
                    refine acpL (f := f 0) (g := f 1) (ws' := [sO cy hh a kk dd b w ee qq ik, ia cy (hh 1) 7 C, qsB cy qq, hO cy (qq 1) (qq 5) (bi 0) (si 0), hO cy (qq 2) (qq 6) (bi 1) (si 1), hO cy (qq 3) (qq 7) (bi 2) (si 2), hO cy (qq 4) (qq 8) (bi 3) (si 3), la cy (qq 5) 40 (f 0), la cy (qq 6) 40 (va_cpy (f 0) (f 1) a1 a2 n1), la cy (qq 7) 40 (f 2), la cy (qq 8) 40 (f 3)]) hx hb hml hl2 hw hown kw_4_16 kw_2_162 kw_2_161 kw_1_9 hK hP4 hD4 hS4 7 8 1 rfl rfl rfl a1 a2 n1 rfl rfl rfl (by omega) (by omega) (by omega) (by first | decide | omega) (by first | decide | omega) rfl (Nat.le_of_ble_eq_true rfl) (Nat.le_of_ble_eq_true rfl) dX6_copy_123 (fun H5 locs5 hP5 hD5 hS5 => ?_)
                    clear hP4 hD4 hS4 locs4 H4
                    replace hP5 : va_P D vwCl ([sO cy hh a kk dd b w ee qq ik, ia cy (hh 1) 7 C] ++ (shB cy qq bi si (va_up f 1 (va_cpy (f 0) (f 1) a1 a2 n1)))) H5 := hP5
                    replace hD5 : va_D (va_A _ sz) ([sO cy hh a kk dd b w ee qq ik, ia cy (hh 1) 7 C] ++ (shB cy qq bi si (va_up f 1 (va_cpy (f 0) (f 1) a1 a2 n1)))) := hD5
                    refine lv_iload hx hb dX6_copy_126 (lv_at hl2 7 rfl) ?_
                    have hcd : cCopy bi si 0 (nI a1) 1 (nI a2) (nI n1) = 7 := by unfold cCopy; clear hx hb hml hown hr hlocks hw hsz hA hG hK hP5 hD5 hS5 hl2; grind
                    have hq9 : ([sO cy hh a kk dd b w ee qq ik, ia cy (hh 1) 7 C] ++ (shB cy qq bi si (va_up f 1 (va_cpy (f 0) (f 1) a1 a2 n1)))) = ([sO cy hh a kk dd b w ee qq ik, ia cy (hh 1) 7 (fnd C (cCopy bi si 0 (nI a1) 1 (nI a2) (nI n1)))] ++ (shB cy qq bi si (va_up f 1 (va_cpy (f 0) (f 1) a1 a2 n1)))) := congrArg (fun z9 => [sO cy hh a kk dd b w ee qq ik, ia cy (hh 1) 7 z9] ++ (shB cy qq bi si (va_up f 1 (va_cpy (f 0) (f 1) a1 a2 n1)))) (show C = (fnd C (cCopy bi si 0 (nI a1) 1 (nI a2) (nI n1))) from fnd_o hcd)
                    replace hP5 := (congrArg (fun z9 => va_P D vwCl z9 _) hq9).mp hP5
                    replace hD5 := (congrArg (fun z9 => va_D _ z9) hq9).mp hD5
                    clear hq9
                    have hq9 : ([sO cy hh a kk dd b w ee qq ik, ia cy (hh 1) 7 (fnd C (cCopy bi si 0 (nI a1) 1 (nI a2) (nI n1)))] ++ (shB cy qq bi si (va_up f 1 (va_cpy (f 0) (f 1) a1 a2 n1)))) = ([sO cy hh a kk dd b w ee qq ik, ia cy (hh 1) 7 (fnd C (cCopy bi si 0 (nI a1) 1 (nI a2) (nI n1)))] ++ (shB cy qq bi si (if cCopy bi si 0 (nI a1) 1 (nI a2) (nI n1) = 7 then va_up f (bstN 1) (va_cpy (f (bstN 0)) (f (bstN 1)) (bstN (nI a1)) (bstN (nI a2)) (bstN (nI n1))) else f))) := congrArg (fun z9 => [sO cy hh a kk dd b w ee qq ik, ia cy (hh 1) 7 (fnd C (cCopy bi si 0 (nI a1) 1 (nI a2) (nI n1)))] ++ (shB cy qq bi si z9)) (show (va_up f 1 (va_cpy (f 0) (f 1) a1 a2 n1)) = (if cCopy bi si 0 (nI a1) 1 (nI a2) (nI n1) = 7 then va_up f (bstN 1) (va_cpy (f (bstN 0)) (f (bstN 1)) (bstN (nI a1)) (bstN (nI a2)) (bstN (nI n1))) else f) from by rw [if_pos hcd]; simp only [hba1, hba2, hbn, hb0, hb1, hb2, hb3])
                    replace hP5 := (congrArg (fun z9 => va_P D vwCl z9 _) hq9).mp hP5
                    replace hD5 := (congrArg (fun z9 => va_D _ z9) hq9).mp hD5
                    clear hq9
                    refine re_i () hx hb hr hlocks hP5 hD5 hS5 dX6_copy_128 ?_
                    exact (ans_o hcd (rfl))
                  · replace hP4 : va_P D vwCl ([sO cy hh a kk dd b w ee qq ik, ia cy (hh 1) 7 C] ++ (shB cy qq bi si f)) H4 := hP4
                    replace hD4 : va_D (va_A _ sz) ([sO cy hh a kk dd b w ee qq ik, ia cy (hh 1) 7 C] ++ (shB cy qq bi si f)) := hD4
                    refine lv_aload_n hx hb dX6_copy_102 rfl (lv_at hl2 2 rfl) ?_
                    refine lv_iconst (v := 0) hx hb dX6_copy_103 (by decide) ?_
                    refine cV_i (wc := [sO cy hh a kk dd b w ee qq ik, ia cy (hh 1) 7 C]) (wr := shB cy qq bi si f) (rest := []) hx hb hml hown hw hG hK hP4 hD4 hS4 hA hl2 kc_X6_find kw_2_59 [.int 0] (c_X6_find l D cy G H4.size hh a kk dd b w ee qq ik C 0 (by first | omega | assumption)) [0, 1] [2, 3, 4, 5, 6, 7, 8, 9, 10] rfl rfl rfl rfl rfl 0 rfl rfl rfl rfl rfl (Nat.le_of_ble_eq_true rfl) ⟨Nat.le_of_ble_eq_true rfl, Nat.le_of_ble_eq_true rfl⟩ dX6_copy_104 ⟨Nat.le_of_ble_eq_true rfl, Nat.le_of_ble_eq_true rfl⟩ (fun r_104 u9 H5 locs5 hu9 hP5 hD5 hS5 => ?_)
                    clear hP4 hD4 hS4 locs4 H4
                    have hr_104 := hu9
                    replace hP5 : va_P D vwCl (shB cy qq bi si f ++ ([sO cy hh a kk dd b w ee qq ik, ia cy (hh 1) 7 (upd C 0 (C 0 + 1))])) H5 := hP5
                    replace hD5 : va_D (va_A _ sz) (shB cy qq bi si f ++ ([sO cy hh a kk dd b w ee qq ik, ia cy (hh 1) 7 (upd C 0 (C 0 + 1))])) := hD5
                    replace hP5 := hP5.sub (ws' := [sO cy hh a kk dd b w ee qq ik, ia cy (hh 1) 7 (upd C 0 (C 0 + 1))] ++ (shB cy qq bi si f)) [9, 10, 0, 1, 2, 3, 4, 5, 6, 7, 8] rfl
                    replace hD5 := hD5.sub (ws' := [sO cy hh a kk dd b w ee qq ik, ia cy (hh 1) 7 (upd C 0 (C 0 + 1))] ++ (shB cy qq bi si f)) [9, 10, 0, 1, 2, 3, 4, 5, 6, 7, 8] (by decide) rfl
                    subst hr_104
                    have hcd : cCopy bi si 0 x2 1 x4 x5 = 0 := by unfold cCopy; clear hx hb hml hown hr hlocks hw hsz hA hG hK hP5 hD5 hS5 hl2; grind
                    have hq9 : ([sO cy hh a kk dd b w ee qq ik, ia cy (hh 1) 7 (upd C 0 (C 0 + 1))] ++ (shB cy qq bi si f)) = ([sO cy hh a kk dd b w ee qq ik, ia cy (hh 1) 7 (fnd C (cCopy bi si 0 x2 1 x4 x5))] ++ (shB cy qq bi si f)) := congrArg (fun z9 => [sO cy hh a kk dd b w ee qq ik, ia cy (hh 1) 7 z9] ++ (shB cy qq bi si f)) (show (upd C 0 (C 0 + 1)) = (fnd C (cCopy bi si 0 x2 1 x4 x5)) from fnd_f hcd (by decide))
                    replace hP5 := (congrArg (fun z9 => va_P D vwCl z9 _) hq9).mp hP5
                    replace hD5 := (congrArg (fun z9 => va_D _ z9) hq9).mp hD5
                    clear hq9
                    have hq9 : ([sO cy hh a kk dd b w ee qq ik, ia cy (hh 1) 7 (fnd C (cCopy bi si 0 x2 1 x4 x5))] ++ (shB cy qq bi si f)) = ([sO cy hh a kk dd b w ee qq ik, ia cy (hh 1) 7 (fnd C (cCopy bi si 0 x2 1 x4 x5))] ++ (shB cy qq bi si (if cCopy bi si 0 x2 1 x4 x5 = 7 then va_up f (bstN 1) (va_cpy (f (bstN 0)) (f (bstN 1)) (bstN x2) (bstN x4) (bstN x5)) else f))) := congrArg (fun z9 => [sO cy hh a kk dd b w ee qq ik, ia cy (hh 1) 7 (fnd C (cCopy bi si 0 x2 1 x4 x5))] ++ (shB cy qq bi si z9)) (show f = (if cCopy bi si 0 x2 1 x4 x5 = 7 then va_up f (bstN 1) (va_cpy (f (bstN 0)) (f (bstN 1)) (bstN x2) (bstN x4) (bstN x5)) else f) from (if_neg (fun z9 => absurd (hcd.symm.trans z9) (by decide))).symm)
                    replace hP5 := (congrArg (fun z9 => va_P D vwCl z9 _) hq9).mp hP5
                    replace hD5 := (congrArg (fun z9 => va_D _ z9) hq9).mp hD5
                    clear hq9
                    refine re_i () hx hb hr hlocks hP5 hD5 hS5 dX6_copy_107 ?_
                    exact (ans_f hcd (by decide) rfl)
              · replace hP2 : va_P D vwCl ([sO cy hh a kk dd b w ee qq ik, ia cy (hh 1) 7 C] ++ (shB cy qq bi si f)) H2 := hP2
                replace hD2 : va_D (va_A _ sz) ([sO cy hh a kk dd b w ee qq ik, ia cy (hh 1) 7 C] ++ (shB cy qq bi si f)) := hD2
                refine lv_aload_n hx hb dX6_copy_73 rfl (lv_at hl2 2 rfl) ?_
                refine lv_iconst (v := 2) hx hb dX6_copy_74 (by decide) ?_
                refine cV_i (wc := [sO cy hh a kk dd b w ee qq ik, ia cy (hh 1) 7 C]) (wr := shB cy qq bi si f) (rest := []) hx hb hml hown hw hG hK hP2 hD2 hS2 hA hl2 kc_X6_find kw_2_59 [.int 2] (c_X6_find l D cy G H2.size hh a kk dd b w ee qq ik C 2 (by first | omega | assumption)) [0, 1] [2, 3, 4, 5, 6, 7, 8, 9, 10] rfl rfl rfl rfl rfl 0 rfl rfl rfl rfl rfl (Nat.le_of_ble_eq_true rfl) ⟨Nat.le_of_ble_eq_true rfl, Nat.le_of_ble_eq_true rfl⟩ dX6_copy_75 ⟨Nat.le_of_ble_eq_true rfl, Nat.le_of_ble_eq_true rfl⟩ (fun r_75 u9 H3 locs3 hu9 hP3 hD3 hS3 => ?_)
                clear hP2 hD2 hS2 locs2 H2
                have hr_75 := hu9
                replace hP3 : va_P D vwCl (shB cy qq bi si f ++ ([sO cy hh a kk dd b w ee qq ik, ia cy (hh 1) 7 (upd C 2 (C 2 + 1))])) H3 := hP3
                replace hD3 : va_D (va_A _ sz) (shB cy qq bi si f ++ ([sO cy hh a kk dd b w ee qq ik, ia cy (hh 1) 7 (upd C 2 (C 2 + 1))])) := hD3
                replace hP3 := hP3.sub (ws' := [sO cy hh a kk dd b w ee qq ik, ia cy (hh 1) 7 (upd C 2 (C 2 + 1))] ++ (shB cy qq bi si f)) [9, 10, 0, 1, 2, 3, 4, 5, 6, 7, 8] rfl
                replace hD3 := hD3.sub (ws' := [sO cy hh a kk dd b w ee qq ik, ia cy (hh 1) 7 (upd C 2 (C 2 + 1))] ++ (shB cy qq bi si f)) [9, 10, 0, 1, 2, 3, 4, 5, 6, 7, 8] (by decide) rfl
                subst hr_75
                have hcd : cCopy bi si 0 x2 1 x4 x5 = 2 := by unfold cCopy; clear hx hb hml hown hr hlocks hw hsz hA hG hK hP3 hD3 hS3 hl2; grind
                have hq9 : ([sO cy hh a kk dd b w ee qq ik, ia cy (hh 1) 7 (upd C 2 (C 2 + 1))] ++ (shB cy qq bi si f)) = ([sO cy hh a kk dd b w ee qq ik, ia cy (hh 1) 7 (fnd C (cCopy bi si 0 x2 1 x4 x5))] ++ (shB cy qq bi si f)) := congrArg (fun z9 => [sO cy hh a kk dd b w ee qq ik, ia cy (hh 1) 7 z9] ++ (shB cy qq bi si f)) (show (upd C 2 (C 2 + 1)) = (fnd C (cCopy bi si 0 x2 1 x4 x5)) from fnd_f hcd (by decide))
                replace hP3 := (congrArg (fun z9 => va_P D vwCl z9 _) hq9).mp hP3
                replace hD3 := (congrArg (fun z9 => va_D _ z9) hq9).mp hD3
                clear hq9
                have hq9 : ([sO cy hh a kk dd b w ee qq ik, ia cy (hh 1) 7 (fnd C (cCopy bi si 0 x2 1 x4 x5))] ++ (shB cy qq bi si f)) = ([sO cy hh a kk dd b w ee qq ik, ia cy (hh 1) 7 (fnd C (cCopy bi si 0 x2 1 x4 x5))] ++ (shB cy qq bi si (if cCopy bi si 0 x2 1 x4 x5 = 7 then va_up f (bstN 1) (va_cpy (f (bstN 0)) (f (bstN 1)) (bstN x2) (bstN x4) (bstN x5)) else f))) := congrArg (fun z9 => [sO cy hh a kk dd b w ee qq ik, ia cy (hh 1) 7 (fnd C (cCopy bi si 0 x2 1 x4 x5))] ++ (shB cy qq bi si z9)) (show f = (if cCopy bi si 0 x2 1 x4 x5 = 7 then va_up f (bstN 1) (va_cpy (f (bstN 0)) (f (bstN 1)) (bstN x2) (bstN x4) (bstN x5)) else f) from (if_neg (fun z9 => absurd (hcd.symm.trans z9) (by decide))).symm)
                replace hP3 := (congrArg (fun z9 => va_P D vwCl z9 _) hq9).mp hP3
                replace hD3 := (congrArg (fun z9 => va_D _ z9) hq9).mp hD3
                clear hq9
                refine re_i () hx hb hr hlocks hP3 hD3 hS3 dX6_copy_78 ?_
                exact (ans_f hcd (by decide) rfl)
            · replace hP2 : va_P D vwCl ([sO cy hh a kk dd b w ee qq ik, ia cy (hh 1) 7 C] ++ (shB cy qq bi si f)) H2 := hP2
              replace hD2 : va_D (va_A _ sz) ([sO cy hh a kk dd b w ee qq ik, ia cy (hh 1) 7 C] ++ (shB cy qq bi si f)) := hD2
              refine lv_aload_n hx hb dX6_copy_54 rfl (lv_at hl2 2 rfl) ?_
              refine lv_iconst (v := 5) hx hb dX6_copy_55 (by decide) ?_
              refine cV_i (wc := [sO cy hh a kk dd b w ee qq ik, ia cy (hh 1) 7 C]) (wr := shB cy qq bi si f) (rest := []) hx hb hml hown hw hG hK hP2 hD2 hS2 hA hl2 kc_X6_find kw_2_59 [.int 5] (c_X6_find l D cy G H2.size hh a kk dd b w ee qq ik C 5 (by first | omega | assumption)) [0, 1] [2, 3, 4, 5, 6, 7, 8, 9, 10] rfl rfl rfl rfl rfl 0 rfl rfl rfl rfl rfl (Nat.le_of_ble_eq_true rfl) ⟨Nat.le_of_ble_eq_true rfl, Nat.le_of_ble_eq_true rfl⟩ dX6_copy_56 ⟨Nat.le_of_ble_eq_true rfl, Nat.le_of_ble_eq_true rfl⟩ (fun r_56 u9 H3 locs3 hu9 hP3 hD3 hS3 => ?_)
              clear hP2 hD2 hS2 locs2 H2
              have hr_56 := hu9
              replace hP3 : va_P D vwCl (shB cy qq bi si f ++ ([sO cy hh a kk dd b w ee qq ik, ia cy (hh 1) 7 (upd C 5 (C 5 + 1))])) H3 := hP3
              replace hD3 : va_D (va_A _ sz) (shB cy qq bi si f ++ ([sO cy hh a kk dd b w ee qq ik, ia cy (hh 1) 7 (upd C 5 (C 5 + 1))])) := hD3
              replace hP3 := hP3.sub (ws' := [sO cy hh a kk dd b w ee qq ik, ia cy (hh 1) 7 (upd C 5 (C 5 + 1))] ++ (shB cy qq bi si f)) [9, 10, 0, 1, 2, 3, 4, 5, 6, 7, 8] rfl
              replace hD3 := hD3.sub (ws' := [sO cy hh a kk dd b w ee qq ik, ia cy (hh 1) 7 (upd C 5 (C 5 + 1))] ++ (shB cy qq bi si f)) [9, 10, 0, 1, 2, 3, 4, 5, 6, 7, 8] (by decide) rfl
              subst hr_56
              have hcd : cCopy bi si 0 x2 1 x4 x5 = 5 := by unfold cCopy; clear hx hb hml hown hr hlocks hw hsz hA hG hK hP3 hD3 hS3 hl2; grind
              have hq9 : ([sO cy hh a kk dd b w ee qq ik, ia cy (hh 1) 7 (upd C 5 (C 5 + 1))] ++ (shB cy qq bi si f)) = ([sO cy hh a kk dd b w ee qq ik, ia cy (hh 1) 7 (fnd C (cCopy bi si 0 x2 1 x4 x5))] ++ (shB cy qq bi si f)) := congrArg (fun z9 => [sO cy hh a kk dd b w ee qq ik, ia cy (hh 1) 7 z9] ++ (shB cy qq bi si f)) (show (upd C 5 (C 5 + 1)) = (fnd C (cCopy bi si 0 x2 1 x4 x5)) from fnd_f hcd (by decide))
              replace hP3 := (congrArg (fun z9 => va_P D vwCl z9 _) hq9).mp hP3
              replace hD3 := (congrArg (fun z9 => va_D _ z9) hq9).mp hD3
              clear hq9
              have hq9 : ([sO cy hh a kk dd b w ee qq ik, ia cy (hh 1) 7 (fnd C (cCopy bi si 0 x2 1 x4 x5))] ++ (shB cy qq bi si f)) = ([sO cy hh a kk dd b w ee qq ik, ia cy (hh 1) 7 (fnd C (cCopy bi si 0 x2 1 x4 x5))] ++ (shB cy qq bi si (if cCopy bi si 0 x2 1 x4 x5 = 7 then va_up f (bstN 1) (va_cpy (f (bstN 0)) (f (bstN 1)) (bstN x2) (bstN x4) (bstN x5)) else f))) := congrArg (fun z9 => [sO cy hh a kk dd b w ee qq ik, ia cy (hh 1) 7 (fnd C (cCopy bi si 0 x2 1 x4 x5))] ++ (shB cy qq bi si z9)) (show f = (if cCopy bi si 0 x2 1 x4 x5 = 7 then va_up f (bstN 1) (va_cpy (f (bstN 0)) (f (bstN 1)) (bstN x2) (bstN x4) (bstN x5)) else f) from (if_neg (fun z9 => absurd (hcd.symm.trans z9) (by decide))).symm)
              replace hP3 := (congrArg (fun z9 => va_P D vwCl z9 _) hq9).mp hP3
              replace hD3 := (congrArg (fun z9 => va_D _ z9) hq9).mp hD3
              clear hq9
              refine re_i () hx hb hr hlocks hP3 hD3 hS3 dX6_copy_59 ?_
              exact (ans_f hcd (by decide) rfl)
        · refine lv_iload_n hx hb dX6_copy_34 rfl (lv_at hl1 4 rfl) ?_
          refine ald_q hx hb hK hP2 2 3 rfl rfl rfl 2 rfl (by first | omega | assumption) (by decide) (rfl) dX6_copy_35 ?_
          refine lv_astore (lv' := [(7, .ref (qq 3)), (6, .ref (qq 1)), (0, .ref (hh 0)), (1, .int 0), (2, .int x2), (3, .int 2), (4, .int x4), (5, .int x5)]) hx hb dX6_copy_36 hl1 (by decide) rfl (fun ls2 hl2 => ?_)
          clear hl1 ls1
          refine lv_aload hx hb dX6_copy_38 (lv_at hl2 1 rfl) ?_
          refine va_get (D := D) (ci := 2) (v := .int (bi 0)) (C := RX2) (T := TX2) (N := 3) hx hb hw iX2 hown hK hP2 3 rfl rfl 1 (by decide) (hw _ kw_2_16) (fun _ h9 => h9) rfl dX6_copy_40 ?_
          refine lv_if_eq (tgt := 54) hx hb dX6_copy_43 (by decide) (fun c_43 => ?_) (fun c_43 => ?_)
          · replace hP2 : va_P D vwCl ([sO cy hh a kk dd b w ee qq ik, ia cy (hh 1) 7 C] ++ (shB cy qq bi si f)) H2 := hP2
            replace hD2 : va_D (va_A _ sz) ([sO cy hh a kk dd b w ee qq ik, ia cy (hh 1) 7 C] ++ (shB cy qq bi si f)) := hD2
            refine lv_aload_n hx hb dX6_copy_54 rfl (lv_at hl2 2 rfl) ?_
            refine lv_iconst (v := 5) hx hb dX6_copy_55 (by decide) ?_
            refine cV_i (wc := [sO cy hh a kk dd b w ee qq ik, ia cy (hh 1) 7 C]) (wr := shB cy qq bi si f) (rest := []) hx hb hml hown hw hG hK hP2 hD2 hS2 hA hl2 kc_X6_find kw_2_59 [.int 5] (c_X6_find l D cy G H2.size hh a kk dd b w ee qq ik C 5 (by first | omega | assumption)) [0, 1] [2, 3, 4, 5, 6, 7, 8, 9, 10] rfl rfl rfl rfl rfl 0 rfl rfl rfl rfl rfl (Nat.le_of_ble_eq_true rfl) ⟨Nat.le_of_ble_eq_true rfl, Nat.le_of_ble_eq_true rfl⟩ dX6_copy_56 ⟨Nat.le_of_ble_eq_true rfl, Nat.le_of_ble_eq_true rfl⟩ (fun r_56 u9 H3 locs3 hu9 hP3 hD3 hS3 => ?_)
            clear hP2 hD2 hS2 locs2 H2
            have hr_56 := hu9
            replace hP3 : va_P D vwCl (shB cy qq bi si f ++ ([sO cy hh a kk dd b w ee qq ik, ia cy (hh 1) 7 (upd C 5 (C 5 + 1))])) H3 := hP3
            replace hD3 : va_D (va_A _ sz) (shB cy qq bi si f ++ ([sO cy hh a kk dd b w ee qq ik, ia cy (hh 1) 7 (upd C 5 (C 5 + 1))])) := hD3
            replace hP3 := hP3.sub (ws' := [sO cy hh a kk dd b w ee qq ik, ia cy (hh 1) 7 (upd C 5 (C 5 + 1))] ++ (shB cy qq bi si f)) [9, 10, 0, 1, 2, 3, 4, 5, 6, 7, 8] rfl
            replace hD3 := hD3.sub (ws' := [sO cy hh a kk dd b w ee qq ik, ia cy (hh 1) 7 (upd C 5 (C 5 + 1))] ++ (shB cy qq bi si f)) [9, 10, 0, 1, 2, 3, 4, 5, 6, 7, 8] (by decide) rfl
            subst hr_56
            have hcd : cCopy bi si 0 x2 2 x4 x5 = 5 := by unfold cCopy; clear hx hb hml hown hr hlocks hw hsz hA hG hK hP3 hD3 hS3 hl2; grind
            have hq9 : ([sO cy hh a kk dd b w ee qq ik, ia cy (hh 1) 7 (upd C 5 (C 5 + 1))] ++ (shB cy qq bi si f)) = ([sO cy hh a kk dd b w ee qq ik, ia cy (hh 1) 7 (fnd C (cCopy bi si 0 x2 2 x4 x5))] ++ (shB cy qq bi si f)) := congrArg (fun z9 => [sO cy hh a kk dd b w ee qq ik, ia cy (hh 1) 7 z9] ++ (shB cy qq bi si f)) (show (upd C 5 (C 5 + 1)) = (fnd C (cCopy bi si 0 x2 2 x4 x5)) from fnd_f hcd (by decide))
            replace hP3 := (congrArg (fun z9 => va_P D vwCl z9 _) hq9).mp hP3
            replace hD3 := (congrArg (fun z9 => va_D _ z9) hq9).mp hD3
            clear hq9
            have hq9 : ([sO cy hh a kk dd b w ee qq ik, ia cy (hh 1) 7 (fnd C (cCopy bi si 0 x2 2 x4 x5))] ++ (shB cy qq bi si f)) = ([sO cy hh a kk dd b w ee qq ik, ia cy (hh 1) 7 (fnd C (cCopy bi si 0 x2 2 x4 x5))] ++ (shB cy qq bi si (if cCopy bi si 0 x2 2 x4 x5 = 7 then va_up f (bstN 2) (va_cpy (f (bstN 0)) (f (bstN 2)) (bstN x2) (bstN x4) (bstN x5)) else f))) := congrArg (fun z9 => [sO cy hh a kk dd b w ee qq ik, ia cy (hh 1) 7 (fnd C (cCopy bi si 0 x2 2 x4 x5))] ++ (shB cy qq bi si z9)) (show f = (if cCopy bi si 0 x2 2 x4 x5 = 7 then va_up f (bstN 2) (va_cpy (f (bstN 0)) (f (bstN 2)) (bstN x2) (bstN x4) (bstN x5)) else f) from (if_neg (fun z9 => absurd (hcd.symm.trans z9) (by decide))).symm)
            replace hP3 := (congrArg (fun z9 => va_P D vwCl z9 _) hq9).mp hP3
            replace hD3 := (congrArg (fun z9 => va_D _ z9) hq9).mp hD3
            clear hq9
            refine re_i () hx hb hr hlocks hP3 hD3 hS3 dX6_copy_59 ?_
            exact (ans_f hcd (by decide) rfl)
          · refine lv_aload hx hb dX6_copy_46 (lv_at hl2 0 rfl) ?_
            refine va_get (D := D) (ci := 2) (v := .int (bi 2)) (C := RX2) (T := TX2) (N := 3) hx hb hw iX2 hown hK hP2 5 rfl rfl 1 (by decide) (hw _ kw_2_16) (fun _ h9 => h9) rfl dX6_copy_48 ?_
            refine lv_if_ne (tgt := 60) hx hb dX6_copy_51 (by decide) (fun c_51 => ?_) (fun c_51 => ?_)
            · refine lv_aload hx hb dX6_copy_60 (lv_at hl2 1 rfl) ?_
              refine va_get (D := D) (ci := 2) (v := .int (bi 0)) (C := RX2) (T := TX2) (N := 3) hx hb hw iX2 hown hK hP2 3 rfl rfl 1 (by decide) (hw _ kw_2_16) (fun _ h9 => h9) rfl dX6_copy_62 ?_
              refine lv_aload hx hb dX6_copy_65 (lv_at hl2 0 rfl) ?_
              refine va_get (D := D) (ci := 2) (v := .int (bi 2)) (C := RX2) (T := TX2) (N := 3) hx hb hw iX2 hown hK hP2 5 rfl rfl 1 (by decide) (hw _ kw_2_16) (fun _ h9 => h9) rfl dX6_copy_67 ?_
              refine lv_icmp_eq (tgt := 79) hx hb dX6_copy_70 (by decide) (fun c_70 => ?_) (fun c_70 => ?_)
              · refine lv_aload hx hb dX6_copy_79 (lv_at hl2 1 rfl) ?_
                refine lv_iload_n hx hb dX6_copy_81 rfl (lv_at hl2 4 rfl) ?_
                refine lv_iload hx hb dX6_copy_82 (lv_at hl2 7 rfl) ?_
                refine rV_i (wc := [hO cy (qq 1) (qq 5) (bi 0) (si 0), la cy (qq 5) 40 (f 0)]) (rest := []) hx hb hml hown hw hG hK hP2 hS2 hA hl2 kc_X2_hasRow kw_4_12 [.int x2, .int x5] (c_X2_hasRow l D cy G H2.size (qq 1) (qq 5) (bi 0) (si 0) (f 0) x2 x5) [3, 7] rfl 0 rfl rfl rfl rfl rfl (Nat.le_of_ble_eq_true rfl) ⟨Nat.le_of_ble_eq_true rfl, Nat.le_of_ble_eq_true rfl⟩ dX6_copy_84 ⟨Nat.le_of_ble_eq_true rfl, Nat.le_of_ble_eq_true rfl⟩ (fun r_84 H3 locs3 hr_84 hP3 hS3 => ?_)
                have hD3 := hD2
                clear hP2 hD2 hS2 locs2 H2
                subst hr_84
                refine lb_eq (tgt := 102) hx hb dX6_copy_87 (by decide) (fun c_87 => ?_) (fun c_87 => ?_)
                · replace hP3 : va_P D vwCl ([sO cy hh a kk dd b w ee qq ik, ia cy (hh 1) 7 C] ++ (shB cy qq bi si f)) H3 := hP3
                  replace hD3 : va_D (va_A _ sz) ([sO cy hh a kk dd b w ee qq ik, ia cy (hh 1) 7 C] ++ (shB cy qq bi si f)) := hD3
                  refine lv_aload_n hx hb dX6_copy_102 rfl (lv_at hl2 2 rfl) ?_
                  refine lv_iconst (v := 0) hx hb dX6_copy_103 (by decide) ?_
                  refine cV_i (wc := [sO cy hh a kk dd b w ee qq ik, ia cy (hh 1) 7 C]) (wr := shB cy qq bi si f) (rest := []) hx hb hml hown hw hG hK hP3 hD3 hS3 hA hl2 kc_X6_find kw_2_59 [.int 0] (c_X6_find l D cy G H3.size hh a kk dd b w ee qq ik C 0 (by first | omega | assumption)) [0, 1] [2, 3, 4, 5, 6, 7, 8, 9, 10] rfl rfl rfl rfl rfl 0 rfl rfl rfl rfl rfl (Nat.le_of_ble_eq_true rfl) ⟨Nat.le_of_ble_eq_true rfl, Nat.le_of_ble_eq_true rfl⟩ dX6_copy_104 ⟨Nat.le_of_ble_eq_true rfl, Nat.le_of_ble_eq_true rfl⟩ (fun r_104 u9 H4 locs4 hu9 hP4 hD4 hS4 => ?_)
                  clear hP3 hD3 hS3 locs3 H3
                  have hr_104 := hu9
                  replace hP4 : va_P D vwCl (shB cy qq bi si f ++ ([sO cy hh a kk dd b w ee qq ik, ia cy (hh 1) 7 (upd C 0 (C 0 + 1))])) H4 := hP4
                  replace hD4 : va_D (va_A _ sz) (shB cy qq bi si f ++ ([sO cy hh a kk dd b w ee qq ik, ia cy (hh 1) 7 (upd C 0 (C 0 + 1))])) := hD4
                  replace hP4 := hP4.sub (ws' := [sO cy hh a kk dd b w ee qq ik, ia cy (hh 1) 7 (upd C 0 (C 0 + 1))] ++ (shB cy qq bi si f)) [9, 10, 0, 1, 2, 3, 4, 5, 6, 7, 8] rfl
                  replace hD4 := hD4.sub (ws' := [sO cy hh a kk dd b w ee qq ik, ia cy (hh 1) 7 (upd C 0 (C 0 + 1))] ++ (shB cy qq bi si f)) [9, 10, 0, 1, 2, 3, 4, 5, 6, 7, 8] (by decide) rfl
                  subst hr_104
                  have hcd : cCopy bi si 0 x2 2 x4 x5 = 0 := by unfold cCopy; clear hx hb hml hown hr hlocks hw hsz hA hG hK hP4 hD4 hS4 hl2; grind
                  have hq9 : ([sO cy hh a kk dd b w ee qq ik, ia cy (hh 1) 7 (upd C 0 (C 0 + 1))] ++ (shB cy qq bi si f)) = ([sO cy hh a kk dd b w ee qq ik, ia cy (hh 1) 7 (fnd C (cCopy bi si 0 x2 2 x4 x5))] ++ (shB cy qq bi si f)) := congrArg (fun z9 => [sO cy hh a kk dd b w ee qq ik, ia cy (hh 1) 7 z9] ++ (shB cy qq bi si f)) (show (upd C 0 (C 0 + 1)) = (fnd C (cCopy bi si 0 x2 2 x4 x5)) from fnd_f hcd (by decide))
                  replace hP4 := (congrArg (fun z9 => va_P D vwCl z9 _) hq9).mp hP4
                  replace hD4 := (congrArg (fun z9 => va_D _ z9) hq9).mp hD4
                  clear hq9
                  have hq9 : ([sO cy hh a kk dd b w ee qq ik, ia cy (hh 1) 7 (fnd C (cCopy bi si 0 x2 2 x4 x5))] ++ (shB cy qq bi si f)) = ([sO cy hh a kk dd b w ee qq ik, ia cy (hh 1) 7 (fnd C (cCopy bi si 0 x2 2 x4 x5))] ++ (shB cy qq bi si (if cCopy bi si 0 x2 2 x4 x5 = 7 then va_up f (bstN 2) (va_cpy (f (bstN 0)) (f (bstN 2)) (bstN x2) (bstN x4) (bstN x5)) else f))) := congrArg (fun z9 => [sO cy hh a kk dd b w ee qq ik, ia cy (hh 1) 7 (fnd C (cCopy bi si 0 x2 2 x4 x5))] ++ (shB cy qq bi si z9)) (show f = (if cCopy bi si 0 x2 2 x4 x5 = 7 then va_up f (bstN 2) (va_cpy (f (bstN 0)) (f (bstN 2)) (bstN x2) (bstN x4) (bstN x5)) else f) from (if_neg (fun z9 => absurd (hcd.symm.trans z9) (by decide))).symm)
                  replace hP4 := (congrArg (fun z9 => va_P D vwCl z9 _) hq9).mp hP4
                  replace hD4 := (congrArg (fun z9 => va_D _ z9) hq9).mp hD4
                  clear hq9
                  refine re_i () hx hb hr hlocks hP4 hD4 hS4 dX6_copy_107 ?_
                  exact (ans_f hcd (by decide) rfl)
                · refine lv_aload hx hb dX6_copy_90 (lv_at hl2 0 rfl) ?_
                  refine lv_iload hx hb dX6_copy_92 (lv_at hl2 6 rfl) ?_
                  refine lv_iload hx hb dX6_copy_94 (lv_at hl2 7 rfl) ?_
                  refine rV_i (wc := [hO cy (qq 3) (qq 7) (bi 2) (si 2), la cy (qq 7) 40 (f 2)]) (rest := []) hx hb hml hown hw hG hK hP3 hS3 hA hl2 kc_X2_hasRow kw_4_12 [.int x4, .int x5] (c_X2_hasRow l D cy G H3.size (qq 3) (qq 7) (bi 2) (si 2) (f 2) x4 x5) [5, 9] rfl 0 rfl rfl rfl rfl rfl (Nat.le_of_ble_eq_true rfl) ⟨Nat.le_of_ble_eq_true rfl, Nat.le_of_ble_eq_true rfl⟩ dX6_copy_96 ⟨Nat.le_of_ble_eq_true rfl, Nat.le_of_ble_eq_true rfl⟩ (fun r_96 H4 locs4 hr_96 hP4 hS4 => ?_)
                  have hD4 := hD3
                  clear hP3 hD3 hS3 locs3 H3
                  subst hr_96
                  refine lb_ne (tgt := 108) hx hb dX6_copy_99 (by decide) (fun c_99 => ?_) (fun c_99 => ?_)
                  · have h8 := c_87
                    rw [(hso 0 (by decide)).1] at h8
                    have h9 := c_99
                    rw [(hso 2 (by decide)).1] at h9
                    obtain ⟨a1, n1, hab, rfl, rfl⟩ := row_at (by omega) h8
                    obtain ⟨a2, n2, hab2, rfl, e4⟩ := row_at (by omega) h9
                    obtain rfl : n1 = n2 := (nI_eq (by omega) (by omega)).mp e4
                    have hba1 : bstN (nI a1) = a1 := bst_n (by omega)
                    have hba2 : bstN (nI a2) = a2 := bst_n (by omega)
                    have hbn : bstN (nI n1) = n1 := bst_n (by omega)
                    refine lv_aload hx hb dX6_copy_108 (lv_at hl2 1 rfl) ?_
                    refine va_get (D := D) (ci := 2) (v := .ref (qq 5)) (C := RX2) (T := TX2) (N := 3) hx hb hw iX2 hown hK hP4 3 rfl rfl 0 (by decide) (hw _ kw_2_14) (fun _ h9 => h9) rfl dX6_copy_110 ?_
                    refine lv_iload_n hx hb dX6_copy_113 rfl (lv_at hl2 4 rfl) ?_
                    refine lv_aload hx hb dX6_copy_114 (lv_at hl2 0 rfl) ?_
                    refine va_get (D := D) (ci := 2) (v := .ref (qq 7)) (C := RX2) (T := TX2) (N := 3) hx hb hw iX2 hown hK hP4 5 rfl rfl 0 (by decide) (hw _ kw_2_14) (fun _ h9 => h9) rfl dX6_copy_116 ?_
                    refine lv_iload hx hb dX6_copy_119 (lv_at hl2 6 rfl) ?_
                    refine lv_iload hx hb dX6_copy_121 (lv_at hl2 7 rfl) ?_
                    refine acpL (f := f 0) (g := f 2) (ws' := [sO cy hh a kk dd b w ee qq ik, ia cy (hh 1) 7 C, qsB cy qq, hO cy (qq 1) (qq 5) (bi 0) (si 0), hO cy (qq 2) (qq 6) (bi 1) (si 1), hO cy (qq 3) (qq 7) (bi 2) (si 2), hO cy (qq 4) (qq 8) (bi 3) (si 3), la cy (qq 5) 40 (f 0), la cy (qq 6) 40 (f 1), la cy (qq 7) 40 (va_cpy (f 0) (f 2) a1 a2 n1), la cy (qq 8) 40 (f 3)]) hx hb hml hl2 hw hown kw_4_16 kw_2_162 kw_2_161 kw_1_9 hK hP4 hD4 hS4 7 9 1 rfl rfl rfl a1 a2 n1 rfl rfl rfl (by omega) (by omega) (by omega) (by first | decide | omega) (by first | decide | omega) rfl (Nat.le_of_ble_eq_true rfl) (Nat.le_of_ble_eq_true rfl) dX6_copy_123 (fun H5 locs5 hP5 hD5 hS5 => ?_)
                    clear hP4 hD4 hS4 locs4 H4
                    replace hP5 : va_P D vwCl ([sO cy hh a kk dd b w ee qq ik, ia cy (hh 1) 7 C] ++ (shB cy qq bi si (va_up f 2 (va_cpy (f 0) (f 2) a1 a2 n1)))) H5 := hP5
                    replace hD5 : va_D (va_A _ sz) ([sO cy hh a kk dd b w ee qq ik, ia cy (hh 1) 7 C] ++ (shB cy qq bi si (va_up f 2 (va_cpy (f 0) (f 2) a1 a2 n1)))) := hD5
                    refine lv_iload hx hb dX6_copy_126 (lv_at hl2 7 rfl) ?_
                    have hcd : cCopy bi si 0 (nI a1) 2 (nI a2) (nI n1) = 7 := by unfold cCopy; clear hx hb hml hown hr hlocks hw hsz hA hG hK hP5 hD5 hS5 hl2; grind
                    have hq9 : ([sO cy hh a kk dd b w ee qq ik, ia cy (hh 1) 7 C] ++ (shB cy qq bi si (va_up f 2 (va_cpy (f 0) (f 2) a1 a2 n1)))) = ([sO cy hh a kk dd b w ee qq ik, ia cy (hh 1) 7 (fnd C (cCopy bi si 0 (nI a1) 2 (nI a2) (nI n1)))] ++ (shB cy qq bi si (va_up f 2 (va_cpy (f 0) (f 2) a1 a2 n1)))) := congrArg (fun z9 => [sO cy hh a kk dd b w ee qq ik, ia cy (hh 1) 7 z9] ++ (shB cy qq bi si (va_up f 2 (va_cpy (f 0) (f 2) a1 a2 n1)))) (show C = (fnd C (cCopy bi si 0 (nI a1) 2 (nI a2) (nI n1))) from fnd_o hcd)
                    replace hP5 := (congrArg (fun z9 => va_P D vwCl z9 _) hq9).mp hP5
                    replace hD5 := (congrArg (fun z9 => va_D _ z9) hq9).mp hD5
                    clear hq9
                    have hq9 : ([sO cy hh a kk dd b w ee qq ik, ia cy (hh 1) 7 (fnd C (cCopy bi si 0 (nI a1) 2 (nI a2) (nI n1)))] ++ (shB cy qq bi si (va_up f 2 (va_cpy (f 0) (f 2) a1 a2 n1)))) = ([sO cy hh a kk dd b w ee qq ik, ia cy (hh 1) 7 (fnd C (cCopy bi si 0 (nI a1) 2 (nI a2) (nI n1)))] ++ (shB cy qq bi si (if cCopy bi si 0 (nI a1) 2 (nI a2) (nI n1) = 7 then va_up f (bstN 2) (va_cpy (f (bstN 0)) (f (bstN 2)) (bstN (nI a1)) (bstN (nI a2)) (bstN (nI n1))) else f))) := congrArg (fun z9 => [sO cy hh a kk dd b w ee qq ik, ia cy (hh 1) 7 (fnd C (cCopy bi si 0 (nI a1) 2 (nI a2) (nI n1)))] ++ (shB cy qq bi si z9)) (show (va_up f 2 (va_cpy (f 0) (f 2) a1 a2 n1)) = (if cCopy bi si 0 (nI a1) 2 (nI a2) (nI n1) = 7 then va_up f (bstN 2) (va_cpy (f (bstN 0)) (f (bstN 2)) (bstN (nI a1)) (bstN (nI a2)) (bstN (nI n1))) else f) from by rw [if_pos hcd]; simp only [hba1, hba2, hbn, hb0, hb1, hb2, hb3])
                    replace hP5 := (congrArg (fun z9 => va_P D vwCl z9 _) hq9).mp hP5
                    replace hD5 := (congrArg (fun z9 => va_D _ z9) hq9).mp hD5
                    clear hq9
                    refine re_i () hx hb hr hlocks hP5 hD5 hS5 dX6_copy_128 ?_
                    exact (ans_o hcd (rfl))
                  · replace hP4 : va_P D vwCl ([sO cy hh a kk dd b w ee qq ik, ia cy (hh 1) 7 C] ++ (shB cy qq bi si f)) H4 := hP4
                    replace hD4 : va_D (va_A _ sz) ([sO cy hh a kk dd b w ee qq ik, ia cy (hh 1) 7 C] ++ (shB cy qq bi si f)) := hD4
                    refine lv_aload_n hx hb dX6_copy_102 rfl (lv_at hl2 2 rfl) ?_
                    refine lv_iconst (v := 0) hx hb dX6_copy_103 (by decide) ?_
                    refine cV_i (wc := [sO cy hh a kk dd b w ee qq ik, ia cy (hh 1) 7 C]) (wr := shB cy qq bi si f) (rest := []) hx hb hml hown hw hG hK hP4 hD4 hS4 hA hl2 kc_X6_find kw_2_59 [.int 0] (c_X6_find l D cy G H4.size hh a kk dd b w ee qq ik C 0 (by first | omega | assumption)) [0, 1] [2, 3, 4, 5, 6, 7, 8, 9, 10] rfl rfl rfl rfl rfl 0 rfl rfl rfl rfl rfl (Nat.le_of_ble_eq_true rfl) ⟨Nat.le_of_ble_eq_true rfl, Nat.le_of_ble_eq_true rfl⟩ dX6_copy_104 ⟨Nat.le_of_ble_eq_true rfl, Nat.le_of_ble_eq_true rfl⟩ (fun r_104 u9 H5 locs5 hu9 hP5 hD5 hS5 => ?_)
                    clear hP4 hD4 hS4 locs4 H4
                    have hr_104 := hu9
                    replace hP5 : va_P D vwCl (shB cy qq bi si f ++ ([sO cy hh a kk dd b w ee qq ik, ia cy (hh 1) 7 (upd C 0 (C 0 + 1))])) H5 := hP5
                    replace hD5 : va_D (va_A _ sz) (shB cy qq bi si f ++ ([sO cy hh a kk dd b w ee qq ik, ia cy (hh 1) 7 (upd C 0 (C 0 + 1))])) := hD5
                    replace hP5 := hP5.sub (ws' := [sO cy hh a kk dd b w ee qq ik, ia cy (hh 1) 7 (upd C 0 (C 0 + 1))] ++ (shB cy qq bi si f)) [9, 10, 0, 1, 2, 3, 4, 5, 6, 7, 8] rfl
                    replace hD5 := hD5.sub (ws' := [sO cy hh a kk dd b w ee qq ik, ia cy (hh 1) 7 (upd C 0 (C 0 + 1))] ++ (shB cy qq bi si f)) [9, 10, 0, 1, 2, 3, 4, 5, 6, 7, 8] (by decide) rfl
                    subst hr_104
                    have hcd : cCopy bi si 0 x2 2 x4 x5 = 0 := by unfold cCopy; clear hx hb hml hown hr hlocks hw hsz hA hG hK hP5 hD5 hS5 hl2; grind
                    have hq9 : ([sO cy hh a kk dd b w ee qq ik, ia cy (hh 1) 7 (upd C 0 (C 0 + 1))] ++ (shB cy qq bi si f)) = ([sO cy hh a kk dd b w ee qq ik, ia cy (hh 1) 7 (fnd C (cCopy bi si 0 x2 2 x4 x5))] ++ (shB cy qq bi si f)) := congrArg (fun z9 => [sO cy hh a kk dd b w ee qq ik, ia cy (hh 1) 7 z9] ++ (shB cy qq bi si f)) (show (upd C 0 (C 0 + 1)) = (fnd C (cCopy bi si 0 x2 2 x4 x5)) from fnd_f hcd (by decide))
                    replace hP5 := (congrArg (fun z9 => va_P D vwCl z9 _) hq9).mp hP5
                    replace hD5 := (congrArg (fun z9 => va_D _ z9) hq9).mp hD5
                    clear hq9
                    have hq9 : ([sO cy hh a kk dd b w ee qq ik, ia cy (hh 1) 7 (fnd C (cCopy bi si 0 x2 2 x4 x5))] ++ (shB cy qq bi si f)) = ([sO cy hh a kk dd b w ee qq ik, ia cy (hh 1) 7 (fnd C (cCopy bi si 0 x2 2 x4 x5))] ++ (shB cy qq bi si (if cCopy bi si 0 x2 2 x4 x5 = 7 then va_up f (bstN 2) (va_cpy (f (bstN 0)) (f (bstN 2)) (bstN x2) (bstN x4) (bstN x5)) else f))) := congrArg (fun z9 => [sO cy hh a kk dd b w ee qq ik, ia cy (hh 1) 7 (fnd C (cCopy bi si 0 x2 2 x4 x5))] ++ (shB cy qq bi si z9)) (show f = (if cCopy bi si 0 x2 2 x4 x5 = 7 then va_up f (bstN 2) (va_cpy (f (bstN 0)) (f (bstN 2)) (bstN x2) (bstN x4) (bstN x5)) else f) from (if_neg (fun z9 => absurd (hcd.symm.trans z9) (by decide))).symm)
                    replace hP5 := (congrArg (fun z9 => va_P D vwCl z9 _) hq9).mp hP5
                    replace hD5 := (congrArg (fun z9 => va_D _ z9) hq9).mp hD5
                    clear hq9
                    refine re_i () hx hb hr hlocks hP5 hD5 hS5 dX6_copy_107 ?_
                    exact (ans_f hcd (by decide) rfl)
              · replace hP2 : va_P D vwCl ([sO cy hh a kk dd b w ee qq ik, ia cy (hh 1) 7 C] ++ (shB cy qq bi si f)) H2 := hP2
                replace hD2 : va_D (va_A _ sz) ([sO cy hh a kk dd b w ee qq ik, ia cy (hh 1) 7 C] ++ (shB cy qq bi si f)) := hD2
                refine lv_aload_n hx hb dX6_copy_73 rfl (lv_at hl2 2 rfl) ?_
                refine lv_iconst (v := 2) hx hb dX6_copy_74 (by decide) ?_
                refine cV_i (wc := [sO cy hh a kk dd b w ee qq ik, ia cy (hh 1) 7 C]) (wr := shB cy qq bi si f) (rest := []) hx hb hml hown hw hG hK hP2 hD2 hS2 hA hl2 kc_X6_find kw_2_59 [.int 2] (c_X6_find l D cy G H2.size hh a kk dd b w ee qq ik C 2 (by first | omega | assumption)) [0, 1] [2, 3, 4, 5, 6, 7, 8, 9, 10] rfl rfl rfl rfl rfl 0 rfl rfl rfl rfl rfl (Nat.le_of_ble_eq_true rfl) ⟨Nat.le_of_ble_eq_true rfl, Nat.le_of_ble_eq_true rfl⟩ dX6_copy_75 ⟨Nat.le_of_ble_eq_true rfl, Nat.le_of_ble_eq_true rfl⟩ (fun r_75 u9 H3 locs3 hu9 hP3 hD3 hS3 => ?_)
                clear hP2 hD2 hS2 locs2 H2
                have hr_75 := hu9
                replace hP3 : va_P D vwCl (shB cy qq bi si f ++ ([sO cy hh a kk dd b w ee qq ik, ia cy (hh 1) 7 (upd C 2 (C 2 + 1))])) H3 := hP3
                replace hD3 : va_D (va_A _ sz) (shB cy qq bi si f ++ ([sO cy hh a kk dd b w ee qq ik, ia cy (hh 1) 7 (upd C 2 (C 2 + 1))])) := hD3
                replace hP3 := hP3.sub (ws' := [sO cy hh a kk dd b w ee qq ik, ia cy (hh 1) 7 (upd C 2 (C 2 + 1))] ++ (shB cy qq bi si f)) [9, 10, 0, 1, 2, 3, 4, 5, 6, 7, 8] rfl
                replace hD3 := hD3.sub (ws' := [sO cy hh a kk dd b w ee qq ik, ia cy (hh 1) 7 (upd C 2 (C 2 + 1))] ++ (shB cy qq bi si f)) [9, 10, 0, 1, 2, 3, 4, 5, 6, 7, 8] (by decide) rfl
                subst hr_75
                have hcd : cCopy bi si 0 x2 2 x4 x5 = 2 := by unfold cCopy; clear hx hb hml hown hr hlocks hw hsz hA hG hK hP3 hD3 hS3 hl2; grind
                have hq9 : ([sO cy hh a kk dd b w ee qq ik, ia cy (hh 1) 7 (upd C 2 (C 2 + 1))] ++ (shB cy qq bi si f)) = ([sO cy hh a kk dd b w ee qq ik, ia cy (hh 1) 7 (fnd C (cCopy bi si 0 x2 2 x4 x5))] ++ (shB cy qq bi si f)) := congrArg (fun z9 => [sO cy hh a kk dd b w ee qq ik, ia cy (hh 1) 7 z9] ++ (shB cy qq bi si f)) (show (upd C 2 (C 2 + 1)) = (fnd C (cCopy bi si 0 x2 2 x4 x5)) from fnd_f hcd (by decide))
                replace hP3 := (congrArg (fun z9 => va_P D vwCl z9 _) hq9).mp hP3
                replace hD3 := (congrArg (fun z9 => va_D _ z9) hq9).mp hD3
                clear hq9
                have hq9 : ([sO cy hh a kk dd b w ee qq ik, ia cy (hh 1) 7 (fnd C (cCopy bi si 0 x2 2 x4 x5))] ++ (shB cy qq bi si f)) = ([sO cy hh a kk dd b w ee qq ik, ia cy (hh 1) 7 (fnd C (cCopy bi si 0 x2 2 x4 x5))] ++ (shB cy qq bi si (if cCopy bi si 0 x2 2 x4 x5 = 7 then va_up f (bstN 2) (va_cpy (f (bstN 0)) (f (bstN 2)) (bstN x2) (bstN x4) (bstN x5)) else f))) := congrArg (fun z9 => [sO cy hh a kk dd b w ee qq ik, ia cy (hh 1) 7 (fnd C (cCopy bi si 0 x2 2 x4 x5))] ++ (shB cy qq bi si z9)) (show f = (if cCopy bi si 0 x2 2 x4 x5 = 7 then va_up f (bstN 2) (va_cpy (f (bstN 0)) (f (bstN 2)) (bstN x2) (bstN x4) (bstN x5)) else f) from (if_neg (fun z9 => absurd (hcd.symm.trans z9) (by decide))).symm)
                replace hP3 := (congrArg (fun z9 => va_P D vwCl z9 _) hq9).mp hP3
                replace hD3 := (congrArg (fun z9 => va_D _ z9) hq9).mp hD3
                clear hq9
                refine re_i () hx hb hr hlocks hP3 hD3 hS3 dX6_copy_78 ?_
                exact (ans_f hcd (by decide) rfl)
            · replace hP2 : va_P D vwCl ([sO cy hh a kk dd b w ee qq ik, ia cy (hh 1) 7 C] ++ (shB cy qq bi si f)) H2 := hP2
              replace hD2 : va_D (va_A _ sz) ([sO cy hh a kk dd b w ee qq ik, ia cy (hh 1) 7 C] ++ (shB cy qq bi si f)) := hD2
              refine lv_aload_n hx hb dX6_copy_54 rfl (lv_at hl2 2 rfl) ?_
              refine lv_iconst (v := 5) hx hb dX6_copy_55 (by decide) ?_
              refine cV_i (wc := [sO cy hh a kk dd b w ee qq ik, ia cy (hh 1) 7 C]) (wr := shB cy qq bi si f) (rest := []) hx hb hml hown hw hG hK hP2 hD2 hS2 hA hl2 kc_X6_find kw_2_59 [.int 5] (c_X6_find l D cy G H2.size hh a kk dd b w ee qq ik C 5 (by first | omega | assumption)) [0, 1] [2, 3, 4, 5, 6, 7, 8, 9, 10] rfl rfl rfl rfl rfl 0 rfl rfl rfl rfl rfl (Nat.le_of_ble_eq_true rfl) ⟨Nat.le_of_ble_eq_true rfl, Nat.le_of_ble_eq_true rfl⟩ dX6_copy_56 ⟨Nat.le_of_ble_eq_true rfl, Nat.le_of_ble_eq_true rfl⟩ (fun r_56 u9 H3 locs3 hu9 hP3 hD3 hS3 => ?_)
              clear hP2 hD2 hS2 locs2 H2
              have hr_56 := hu9
              replace hP3 : va_P D vwCl (shB cy qq bi si f ++ ([sO cy hh a kk dd b w ee qq ik, ia cy (hh 1) 7 (upd C 5 (C 5 + 1))])) H3 := hP3
              replace hD3 : va_D (va_A _ sz) (shB cy qq bi si f ++ ([sO cy hh a kk dd b w ee qq ik, ia cy (hh 1) 7 (upd C 5 (C 5 + 1))])) := hD3
              replace hP3 := hP3.sub (ws' := [sO cy hh a kk dd b w ee qq ik, ia cy (hh 1) 7 (upd C 5 (C 5 + 1))] ++ (shB cy qq bi si f)) [9, 10, 0, 1, 2, 3, 4, 5, 6, 7, 8] rfl
              replace hD3 := hD3.sub (ws' := [sO cy hh a kk dd b w ee qq ik, ia cy (hh 1) 7 (upd C 5 (C 5 + 1))] ++ (shB cy qq bi si f)) [9, 10, 0, 1, 2, 3, 4, 5, 6, 7, 8] (by decide) rfl
              subst hr_56
              have hcd : cCopy bi si 0 x2 2 x4 x5 = 5 := by unfold cCopy; clear hx hb hml hown hr hlocks hw hsz hA hG hK hP3 hD3 hS3 hl2; grind
              have hq9 : ([sO cy hh a kk dd b w ee qq ik, ia cy (hh 1) 7 (upd C 5 (C 5 + 1))] ++ (shB cy qq bi si f)) = ([sO cy hh a kk dd b w ee qq ik, ia cy (hh 1) 7 (fnd C (cCopy bi si 0 x2 2 x4 x5))] ++ (shB cy qq bi si f)) := congrArg (fun z9 => [sO cy hh a kk dd b w ee qq ik, ia cy (hh 1) 7 z9] ++ (shB cy qq bi si f)) (show (upd C 5 (C 5 + 1)) = (fnd C (cCopy bi si 0 x2 2 x4 x5)) from fnd_f hcd (by decide))
              replace hP3 := (congrArg (fun z9 => va_P D vwCl z9 _) hq9).mp hP3
              replace hD3 := (congrArg (fun z9 => va_D _ z9) hq9).mp hD3
              clear hq9
              have hq9 : ([sO cy hh a kk dd b w ee qq ik, ia cy (hh 1) 7 (fnd C (cCopy bi si 0 x2 2 x4 x5))] ++ (shB cy qq bi si f)) = ([sO cy hh a kk dd b w ee qq ik, ia cy (hh 1) 7 (fnd C (cCopy bi si 0 x2 2 x4 x5))] ++ (shB cy qq bi si (if cCopy bi si 0 x2 2 x4 x5 = 7 then va_up f (bstN 2) (va_cpy (f (bstN 0)) (f (bstN 2)) (bstN x2) (bstN x4) (bstN x5)) else f))) := congrArg (fun z9 => [sO cy hh a kk dd b w ee qq ik, ia cy (hh 1) 7 (fnd C (cCopy bi si 0 x2 2 x4 x5))] ++ (shB cy qq bi si z9)) (show f = (if cCopy bi si 0 x2 2 x4 x5 = 7 then va_up f (bstN 2) (va_cpy (f (bstN 0)) (f (bstN 2)) (bstN x2) (bstN x4) (bstN x5)) else f) from (if_neg (fun z9 => absurd (hcd.symm.trans z9) (by decide))).symm)
              replace hP3 := (congrArg (fun z9 => va_P D vwCl z9 _) hq9).mp hP3
              replace hD3 := (congrArg (fun z9 => va_D _ z9) hq9).mp hD3
              clear hq9
              refine re_i () hx hb hr hlocks hP3 hD3 hS3 dX6_copy_59 ?_
              exact (ans_f hcd (by decide) rfl)
        · refine lv_iload_n hx hb dX6_copy_34 rfl (lv_at hl1 4 rfl) ?_
          refine ald_q hx hb hK hP2 2 3 rfl rfl rfl 3 rfl (by first | omega | assumption) (by decide) (rfl) dX6_copy_35 ?_
          refine lv_astore (lv' := [(7, .ref (qq 4)), (6, .ref (qq 1)), (0, .ref (hh 0)), (1, .int 0), (2, .int x2), (3, .int 3), (4, .int x4), (5, .int x5)]) hx hb dX6_copy_36 hl1 (by decide) rfl (fun ls2 hl2 => ?_)
          clear hl1 ls1
          refine lv_aload hx hb dX6_copy_38 (lv_at hl2 1 rfl) ?_
          refine va_get (D := D) (ci := 2) (v := .int (bi 0)) (C := RX2) (T := TX2) (N := 3) hx hb hw iX2 hown hK hP2 3 rfl rfl 1 (by decide) (hw _ kw_2_16) (fun _ h9 => h9) rfl dX6_copy_40 ?_
          refine lv_if_eq (tgt := 54) hx hb dX6_copy_43 (by decide) (fun c_43 => ?_) (fun c_43 => ?_)
          · replace hP2 : va_P D vwCl ([sO cy hh a kk dd b w ee qq ik, ia cy (hh 1) 7 C] ++ (shB cy qq bi si f)) H2 := hP2
            replace hD2 : va_D (va_A _ sz) ([sO cy hh a kk dd b w ee qq ik, ia cy (hh 1) 7 C] ++ (shB cy qq bi si f)) := hD2
            refine lv_aload_n hx hb dX6_copy_54 rfl (lv_at hl2 2 rfl) ?_
            refine lv_iconst (v := 5) hx hb dX6_copy_55 (by decide) ?_
            refine cV_i (wc := [sO cy hh a kk dd b w ee qq ik, ia cy (hh 1) 7 C]) (wr := shB cy qq bi si f) (rest := []) hx hb hml hown hw hG hK hP2 hD2 hS2 hA hl2 kc_X6_find kw_2_59 [.int 5] (c_X6_find l D cy G H2.size hh a kk dd b w ee qq ik C 5 (by first | omega | assumption)) [0, 1] [2, 3, 4, 5, 6, 7, 8, 9, 10] rfl rfl rfl rfl rfl 0 rfl rfl rfl rfl rfl (Nat.le_of_ble_eq_true rfl) ⟨Nat.le_of_ble_eq_true rfl, Nat.le_of_ble_eq_true rfl⟩ dX6_copy_56 ⟨Nat.le_of_ble_eq_true rfl, Nat.le_of_ble_eq_true rfl⟩ (fun r_56 u9 H3 locs3 hu9 hP3 hD3 hS3 => ?_)
            clear hP2 hD2 hS2 locs2 H2
            have hr_56 := hu9
            replace hP3 : va_P D vwCl (shB cy qq bi si f ++ ([sO cy hh a kk dd b w ee qq ik, ia cy (hh 1) 7 (upd C 5 (C 5 + 1))])) H3 := hP3
            replace hD3 : va_D (va_A _ sz) (shB cy qq bi si f ++ ([sO cy hh a kk dd b w ee qq ik, ia cy (hh 1) 7 (upd C 5 (C 5 + 1))])) := hD3
            replace hP3 := hP3.sub (ws' := [sO cy hh a kk dd b w ee qq ik, ia cy (hh 1) 7 (upd C 5 (C 5 + 1))] ++ (shB cy qq bi si f)) [9, 10, 0, 1, 2, 3, 4, 5, 6, 7, 8] rfl
            replace hD3 := hD3.sub (ws' := [sO cy hh a kk dd b w ee qq ik, ia cy (hh 1) 7 (upd C 5 (C 5 + 1))] ++ (shB cy qq bi si f)) [9, 10, 0, 1, 2, 3, 4, 5, 6, 7, 8] (by decide) rfl
            subst hr_56
            have hcd : cCopy bi si 0 x2 3 x4 x5 = 5 := by unfold cCopy; clear hx hb hml hown hr hlocks hw hsz hA hG hK hP3 hD3 hS3 hl2; grind
            have hq9 : ([sO cy hh a kk dd b w ee qq ik, ia cy (hh 1) 7 (upd C 5 (C 5 + 1))] ++ (shB cy qq bi si f)) = ([sO cy hh a kk dd b w ee qq ik, ia cy (hh 1) 7 (fnd C (cCopy bi si 0 x2 3 x4 x5))] ++ (shB cy qq bi si f)) := congrArg (fun z9 => [sO cy hh a kk dd b w ee qq ik, ia cy (hh 1) 7 z9] ++ (shB cy qq bi si f)) (show (upd C 5 (C 5 + 1)) = (fnd C (cCopy bi si 0 x2 3 x4 x5)) from fnd_f hcd (by decide))
            replace hP3 := (congrArg (fun z9 => va_P D vwCl z9 _) hq9).mp hP3
            replace hD3 := (congrArg (fun z9 => va_D _ z9) hq9).mp hD3
            clear hq9
            have hq9 : ([sO cy hh a kk dd b w ee qq ik, ia cy (hh 1) 7 (fnd C (cCopy bi si 0 x2 3 x4 x5))] ++ (shB cy qq bi si f)) = ([sO cy hh a kk dd b w ee qq ik, ia cy (hh 1) 7 (fnd C (cCopy bi si 0 x2 3 x4 x5))] ++ (shB cy qq bi si (if cCopy bi si 0 x2 3 x4 x5 = 7 then va_up f (bstN 3) (va_cpy (f (bstN 0)) (f (bstN 3)) (bstN x2) (bstN x4) (bstN x5)) else f))) := congrArg (fun z9 => [sO cy hh a kk dd b w ee qq ik, ia cy (hh 1) 7 (fnd C (cCopy bi si 0 x2 3 x4 x5))] ++ (shB cy qq bi si z9)) (show f = (if cCopy bi si 0 x2 3 x4 x5 = 7 then va_up f (bstN 3) (va_cpy (f (bstN 0)) (f (bstN 3)) (bstN x2) (bstN x4) (bstN x5)) else f) from (if_neg (fun z9 => absurd (hcd.symm.trans z9) (by decide))).symm)
            replace hP3 := (congrArg (fun z9 => va_P D vwCl z9 _) hq9).mp hP3
            replace hD3 := (congrArg (fun z9 => va_D _ z9) hq9).mp hD3
            clear hq9
            refine re_i () hx hb hr hlocks hP3 hD3 hS3 dX6_copy_59 ?_
            exact (ans_f hcd (by decide) rfl)
          · refine lv_aload hx hb dX6_copy_46 (lv_at hl2 0 rfl) ?_
            refine va_get (D := D) (ci := 2) (v := .int (bi 3)) (C := RX2) (T := TX2) (N := 3) hx hb hw iX2 hown hK hP2 6 rfl rfl 1 (by decide) (hw _ kw_2_16) (fun _ h9 => h9) rfl dX6_copy_48 ?_
            refine lv_if_ne (tgt := 60) hx hb dX6_copy_51 (by decide) (fun c_51 => ?_) (fun c_51 => ?_)
            · refine lv_aload hx hb dX6_copy_60 (lv_at hl2 1 rfl) ?_
              refine va_get (D := D) (ci := 2) (v := .int (bi 0)) (C := RX2) (T := TX2) (N := 3) hx hb hw iX2 hown hK hP2 3 rfl rfl 1 (by decide) (hw _ kw_2_16) (fun _ h9 => h9) rfl dX6_copy_62 ?_
              refine lv_aload hx hb dX6_copy_65 (lv_at hl2 0 rfl) ?_
              refine va_get (D := D) (ci := 2) (v := .int (bi 3)) (C := RX2) (T := TX2) (N := 3) hx hb hw iX2 hown hK hP2 6 rfl rfl 1 (by decide) (hw _ kw_2_16) (fun _ h9 => h9) rfl dX6_copy_67 ?_
              refine lv_icmp_eq (tgt := 79) hx hb dX6_copy_70 (by decide) (fun c_70 => ?_) (fun c_70 => ?_)
              · refine lv_aload hx hb dX6_copy_79 (lv_at hl2 1 rfl) ?_
                refine lv_iload_n hx hb dX6_copy_81 rfl (lv_at hl2 4 rfl) ?_
                refine lv_iload hx hb dX6_copy_82 (lv_at hl2 7 rfl) ?_
                refine rV_i (wc := [hO cy (qq 1) (qq 5) (bi 0) (si 0), la cy (qq 5) 40 (f 0)]) (rest := []) hx hb hml hown hw hG hK hP2 hS2 hA hl2 kc_X2_hasRow kw_4_12 [.int x2, .int x5] (c_X2_hasRow l D cy G H2.size (qq 1) (qq 5) (bi 0) (si 0) (f 0) x2 x5) [3, 7] rfl 0 rfl rfl rfl rfl rfl (Nat.le_of_ble_eq_true rfl) ⟨Nat.le_of_ble_eq_true rfl, Nat.le_of_ble_eq_true rfl⟩ dX6_copy_84 ⟨Nat.le_of_ble_eq_true rfl, Nat.le_of_ble_eq_true rfl⟩ (fun r_84 H3 locs3 hr_84 hP3 hS3 => ?_)
                have hD3 := hD2
                clear hP2 hD2 hS2 locs2 H2
                subst hr_84
                refine lb_eq (tgt := 102) hx hb dX6_copy_87 (by decide) (fun c_87 => ?_) (fun c_87 => ?_)
                · replace hP3 : va_P D vwCl ([sO cy hh a kk dd b w ee qq ik, ia cy (hh 1) 7 C] ++ (shB cy qq bi si f)) H3 := hP3
                  replace hD3 : va_D (va_A _ sz) ([sO cy hh a kk dd b w ee qq ik, ia cy (hh 1) 7 C] ++ (shB cy qq bi si f)) := hD3
                  refine lv_aload_n hx hb dX6_copy_102 rfl (lv_at hl2 2 rfl) ?_
                  refine lv_iconst (v := 0) hx hb dX6_copy_103 (by decide) ?_
                  refine cV_i (wc := [sO cy hh a kk dd b w ee qq ik, ia cy (hh 1) 7 C]) (wr := shB cy qq bi si f) (rest := []) hx hb hml hown hw hG hK hP3 hD3 hS3 hA hl2 kc_X6_find kw_2_59 [.int 0] (c_X6_find l D cy G H3.size hh a kk dd b w ee qq ik C 0 (by first | omega | assumption)) [0, 1] [2, 3, 4, 5, 6, 7, 8, 9, 10] rfl rfl rfl rfl rfl 0 rfl rfl rfl rfl rfl (Nat.le_of_ble_eq_true rfl) ⟨Nat.le_of_ble_eq_true rfl, Nat.le_of_ble_eq_true rfl⟩ dX6_copy_104 ⟨Nat.le_of_ble_eq_true rfl, Nat.le_of_ble_eq_true rfl⟩ (fun r_104 u9 H4 locs4 hu9 hP4 hD4 hS4 => ?_)
                  clear hP3 hD3 hS3 locs3 H3
                  have hr_104 := hu9
                  replace hP4 : va_P D vwCl (shB cy qq bi si f ++ ([sO cy hh a kk dd b w ee qq ik, ia cy (hh 1) 7 (upd C 0 (C 0 + 1))])) H4 := hP4
                  replace hD4 : va_D (va_A _ sz) (shB cy qq bi si f ++ ([sO cy hh a kk dd b w ee qq ik, ia cy (hh 1) 7 (upd C 0 (C 0 + 1))])) := hD4
                  replace hP4 := hP4.sub (ws' := [sO cy hh a kk dd b w ee qq ik, ia cy (hh 1) 7 (upd C 0 (C 0 + 1))] ++ (shB cy qq bi si f)) [9, 10, 0, 1, 2, 3, 4, 5, 6, 7, 8] rfl
                  replace hD4 := hD4.sub (ws' := [sO cy hh a kk dd b w ee qq ik, ia cy (hh 1) 7 (upd C 0 (C 0 + 1))] ++ (shB cy qq bi si f)) [9, 10, 0, 1, 2, 3, 4, 5, 6, 7, 8] (by decide) rfl
                  subst hr_104
                  have hcd : cCopy bi si 0 x2 3 x4 x5 = 0 := by unfold cCopy; clear hx hb hml hown hr hlocks hw hsz hA hG hK hP4 hD4 hS4 hl2; grind
                  have hq9 : ([sO cy hh a kk dd b w ee qq ik, ia cy (hh 1) 7 (upd C 0 (C 0 + 1))] ++ (shB cy qq bi si f)) = ([sO cy hh a kk dd b w ee qq ik, ia cy (hh 1) 7 (fnd C (cCopy bi si 0 x2 3 x4 x5))] ++ (shB cy qq bi si f)) := congrArg (fun z9 => [sO cy hh a kk dd b w ee qq ik, ia cy (hh 1) 7 z9] ++ (shB cy qq bi si f)) (show (upd C 0 (C 0 + 1)) = (fnd C (cCopy bi si 0 x2 3 x4 x5)) from fnd_f hcd (by decide))
                  replace hP4 := (congrArg (fun z9 => va_P D vwCl z9 _) hq9).mp hP4
                  replace hD4 := (congrArg (fun z9 => va_D _ z9) hq9).mp hD4
                  clear hq9
                  have hq9 : ([sO cy hh a kk dd b w ee qq ik, ia cy (hh 1) 7 (fnd C (cCopy bi si 0 x2 3 x4 x5))] ++ (shB cy qq bi si f)) = ([sO cy hh a kk dd b w ee qq ik, ia cy (hh 1) 7 (fnd C (cCopy bi si 0 x2 3 x4 x5))] ++ (shB cy qq bi si (if cCopy bi si 0 x2 3 x4 x5 = 7 then va_up f (bstN 3) (va_cpy (f (bstN 0)) (f (bstN 3)) (bstN x2) (bstN x4) (bstN x5)) else f))) := congrArg (fun z9 => [sO cy hh a kk dd b w ee qq ik, ia cy (hh 1) 7 (fnd C (cCopy bi si 0 x2 3 x4 x5))] ++ (shB cy qq bi si z9)) (show f = (if cCopy bi si 0 x2 3 x4 x5 = 7 then va_up f (bstN 3) (va_cpy (f (bstN 0)) (f (bstN 3)) (bstN x2) (bstN x4) (bstN x5)) else f) from (if_neg (fun z9 => absurd (hcd.symm.trans z9) (by decide))).symm)
                  replace hP4 := (congrArg (fun z9 => va_P D vwCl z9 _) hq9).mp hP4
                  replace hD4 := (congrArg (fun z9 => va_D _ z9) hq9).mp hD4
                  clear hq9
                  refine re_i () hx hb hr hlocks hP4 hD4 hS4 dX6_copy_107 ?_
                  exact (ans_f hcd (by decide) rfl)
                · refine lv_aload hx hb dX6_copy_90 (lv_at hl2 0 rfl) ?_
                  refine lv_iload hx hb dX6_copy_92 (lv_at hl2 6 rfl) ?_
                  refine lv_iload hx hb dX6_copy_94 (lv_at hl2 7 rfl) ?_
                  refine rV_i (wc := [hO cy (qq 4) (qq 8) (bi 3) (si 3), la cy (qq 8) 40 (f 3)]) (rest := []) hx hb hml hown hw hG hK hP3 hS3 hA hl2 kc_X2_hasRow kw_4_12 [.int x4, .int x5] (c_X2_hasRow l D cy G H3.size (qq 4) (qq 8) (bi 3) (si 3) (f 3) x4 x5) [6, 10] rfl 0 rfl rfl rfl rfl rfl (Nat.le_of_ble_eq_true rfl) ⟨Nat.le_of_ble_eq_true rfl, Nat.le_of_ble_eq_true rfl⟩ dX6_copy_96 ⟨Nat.le_of_ble_eq_true rfl, Nat.le_of_ble_eq_true rfl⟩ (fun r_96 H4 locs4 hr_96 hP4 hS4 => ?_)
                  have hD4 := hD3
                  clear hP3 hD3 hS3 locs3 H3
                  subst hr_96
                  refine lb_ne (tgt := 108) hx hb dX6_copy_99 (by decide) (fun c_99 => ?_) (fun c_99 => ?_)
                  · have h8 := c_87
                    rw [(hso 0 (by decide)).1] at h8
                    have h9 := c_99
                    rw [(hso 3 (by decide)).1] at h9
                    obtain ⟨a1, n1, hab, rfl, rfl⟩ := row_at (by omega) h8
                    obtain ⟨a2, n2, hab2, rfl, e4⟩ := row_at (by omega) h9
                    obtain rfl : n1 = n2 := (nI_eq (by omega) (by omega)).mp e4
                    have hba1 : bstN (nI a1) = a1 := bst_n (by omega)
                    have hba2 : bstN (nI a2) = a2 := bst_n (by omega)
                    have hbn : bstN (nI n1) = n1 := bst_n (by omega)
                    refine lv_aload hx hb dX6_copy_108 (lv_at hl2 1 rfl) ?_
                    refine va_get (D := D) (ci := 2) (v := .ref (qq 5)) (C := RX2) (T := TX2) (N := 3) hx hb hw iX2 hown hK hP4 3 rfl rfl 0 (by decide) (hw _ kw_2_14) (fun _ h9 => h9) rfl dX6_copy_110 ?_
                    refine lv_iload_n hx hb dX6_copy_113 rfl (lv_at hl2 4 rfl) ?_
                    refine lv_aload hx hb dX6_copy_114 (lv_at hl2 0 rfl) ?_
                    refine va_get (D := D) (ci := 2) (v := .ref (qq 8)) (C := RX2) (T := TX2) (N := 3) hx hb hw iX2 hown hK hP4 6 rfl rfl 0 (by decide) (hw _ kw_2_14) (fun _ h9 => h9) rfl dX6_copy_116 ?_
                    refine lv_iload hx hb dX6_copy_119 (lv_at hl2 6 rfl) ?_
                    refine lv_iload hx hb dX6_copy_121 (lv_at hl2 7 rfl) ?_
                    refine acpL (f := f 0) (g := f 3) (ws' := [sO cy hh a kk dd b w ee qq ik, ia cy (hh 1) 7 C, qsB cy qq, hO cy (qq 1) (qq 5) (bi 0) (si 0), hO cy (qq 2) (qq 6) (bi 1) (si 1), hO cy (qq 3) (qq 7) (bi 2) (si 2), hO cy (qq 4) (qq 8) (bi 3) (si 3), la cy (qq 5) 40 (f 0), la cy (qq 6) 40 (f 1), la cy (qq 7) 40 (f 2), la cy (qq 8) 40 (va_cpy (f 0) (f 3) a1 a2 n1)]) hx hb hml hl2 hw hown kw_4_16 kw_2_162 kw_2_161 kw_1_9 hK hP4 hD4 hS4 7 10 1 rfl rfl rfl a1 a2 n1 rfl rfl rfl (by omega) (by omega) (by omega) (by first | decide | omega) (by first | decide | omega) rfl (Nat.le_of_ble_eq_true rfl) (Nat.le_of_ble_eq_true rfl) dX6_copy_123 (fun H5 locs5 hP5 hD5 hS5 => ?_)
                    clear hP4 hD4 hS4 locs4 H4
                    replace hP5 : va_P D vwCl ([sO cy hh a kk dd b w ee qq ik, ia cy (hh 1) 7 C] ++ (shB cy qq bi si (va_up f 3 (va_cpy (f 0) (f 3) a1 a2 n1)))) H5 := hP5
                    replace hD5 : va_D (va_A _ sz) ([sO cy hh a kk dd b w ee qq ik, ia cy (hh 1) 7 C] ++ (shB cy qq bi si (va_up f 3 (va_cpy (f 0) (f 3) a1 a2 n1)))) := hD5
                    refine lv_iload hx hb dX6_copy_126 (lv_at hl2 7 rfl) ?_
                    have hcd : cCopy bi si 0 (nI a1) 3 (nI a2) (nI n1) = 7 := by unfold cCopy; clear hx hb hml hown hr hlocks hw hsz hA hG hK hP5 hD5 hS5 hl2; grind
                    have hq9 : ([sO cy hh a kk dd b w ee qq ik, ia cy (hh 1) 7 C] ++ (shB cy qq bi si (va_up f 3 (va_cpy (f 0) (f 3) a1 a2 n1)))) = ([sO cy hh a kk dd b w ee qq ik, ia cy (hh 1) 7 (fnd C (cCopy bi si 0 (nI a1) 3 (nI a2) (nI n1)))] ++ (shB cy qq bi si (va_up f 3 (va_cpy (f 0) (f 3) a1 a2 n1)))) := congrArg (fun z9 => [sO cy hh a kk dd b w ee qq ik, ia cy (hh 1) 7 z9] ++ (shB cy qq bi si (va_up f 3 (va_cpy (f 0) (f 3) a1 a2 n1)))) (show C = (fnd C (cCopy bi si 0 (nI a1) 3 (nI a2) (nI n1))) from fnd_o hcd)
                    replace hP5 := (congrArg (fun z9 => va_P D vwCl z9 _) hq9).mp hP5
                    replace hD5 := (congrArg (fun z9 => va_D _ z9) hq9).mp hD5
                    clear hq9
                    have hq9 : ([sO cy hh a kk dd b w ee qq ik, ia cy (hh 1) 7 (fnd C (cCopy bi si 0 (nI a1) 3 (nI a2) (nI n1)))] ++ (shB cy qq bi si (va_up f 3 (va_cpy (f 0) (f 3) a1 a2 n1)))) = ([sO cy hh a kk dd b w ee qq ik, ia cy (hh 1) 7 (fnd C (cCopy bi si 0 (nI a1) 3 (nI a2) (nI n1)))] ++ (shB cy qq bi si (if cCopy bi si 0 (nI a1) 3 (nI a2) (nI n1) = 7 then va_up f (bstN 3) (va_cpy (f (bstN 0)) (f (bstN 3)) (bstN (nI a1)) (bstN (nI a2)) (bstN (nI n1))) else f))) := congrArg (fun z9 => [sO cy hh a kk dd b w ee qq ik, ia cy (hh 1) 7 (fnd C (cCopy bi si 0 (nI a1) 3 (nI a2) (nI n1)))] ++ (shB cy qq bi si z9)) (show (va_up f 3 (va_cpy (f 0) (f 3) a1 a2 n1)) = (if cCopy bi si 0 (nI a1) 3 (nI a2) (nI n1) = 7 then va_up f (bstN 3) (va_cpy (f (bstN 0)) (f (bstN 3)) (bstN (nI a1)) (bstN (nI a2)) (bstN (nI n1))) else f) from by rw [if_pos hcd]; simp only [hba1, hba2, hbn, hb0, hb1, hb2, hb3])
                    replace hP5 := (congrArg (fun z9 => va_P D vwCl z9 _) hq9).mp hP5
                    replace hD5 := (congrArg (fun z9 => va_D _ z9) hq9).mp hD5
                    clear hq9
                    refine re_i () hx hb hr hlocks hP5 hD5 hS5 dX6_copy_128 ?_
                    exact (ans_o hcd (rfl))
                  · replace hP4 : va_P D vwCl ([sO cy hh a kk dd b w ee qq ik, ia cy (hh 1) 7 C] ++ (shB cy qq bi si f)) H4 := hP4
                    replace hD4 : va_D (va_A _ sz) ([sO cy hh a kk dd b w ee qq ik, ia cy (hh 1) 7 C] ++ (shB cy qq bi si f)) := hD4
                    refine lv_aload_n hx hb dX6_copy_102 rfl (lv_at hl2 2 rfl) ?_
                    refine lv_iconst (v := 0) hx hb dX6_copy_103 (by decide) ?_
                    refine cV_i (wc := [sO cy hh a kk dd b w ee qq ik, ia cy (hh 1) 7 C]) (wr := shB cy qq bi si f) (rest := []) hx hb hml hown hw hG hK hP4 hD4 hS4 hA hl2 kc_X6_find kw_2_59 [.int 0] (c_X6_find l D cy G H4.size hh a kk dd b w ee qq ik C 0 (by first | omega | assumption)) [0, 1] [2, 3, 4, 5, 6, 7, 8, 9, 10] rfl rfl rfl rfl rfl 0 rfl rfl rfl rfl rfl (Nat.le_of_ble_eq_true rfl) ⟨Nat.le_of_ble_eq_true rfl, Nat.le_of_ble_eq_true rfl⟩ dX6_copy_104 ⟨Nat.le_of_ble_eq_true rfl, Nat.le_of_ble_eq_true rfl⟩ (fun r_104 u9 H5 locs5 hu9 hP5 hD5 hS5 => ?_)
                    clear hP4 hD4 hS4 locs4 H4
                    have hr_104 := hu9
                    replace hP5 : va_P D vwCl (shB cy qq bi si f ++ ([sO cy hh a kk dd b w ee qq ik, ia cy (hh 1) 7 (upd C 0 (C 0 + 1))])) H5 := hP5
                    replace hD5 : va_D (va_A _ sz) (shB cy qq bi si f ++ ([sO cy hh a kk dd b w ee qq ik, ia cy (hh 1) 7 (upd C 0 (C 0 + 1))])) := hD5
                    replace hP5 := hP5.sub (ws' := [sO cy hh a kk dd b w ee qq ik, ia cy (hh 1) 7 (upd C 0 (C 0 + 1))] ++ (shB cy qq bi si f)) [9, 10, 0, 1, 2, 3, 4, 5, 6, 7, 8] rfl
                    replace hD5 := hD5.sub (ws' := [sO cy hh a kk dd b w ee qq ik, ia cy (hh 1) 7 (upd C 0 (C 0 + 1))] ++ (shB cy qq bi si f)) [9, 10, 0, 1, 2, 3, 4, 5, 6, 7, 8] (by decide) rfl
                    subst hr_104
                    have hcd : cCopy bi si 0 x2 3 x4 x5 = 0 := by unfold cCopy; clear hx hb hml hown hr hlocks hw hsz hA hG hK hP5 hD5 hS5 hl2; grind
                    have hq9 : ([sO cy hh a kk dd b w ee qq ik, ia cy (hh 1) 7 (upd C 0 (C 0 + 1))] ++ (shB cy qq bi si f)) = ([sO cy hh a kk dd b w ee qq ik, ia cy (hh 1) 7 (fnd C (cCopy bi si 0 x2 3 x4 x5))] ++ (shB cy qq bi si f)) := congrArg (fun z9 => [sO cy hh a kk dd b w ee qq ik, ia cy (hh 1) 7 z9] ++ (shB cy qq bi si f)) (show (upd C 0 (C 0 + 1)) = (fnd C (cCopy bi si 0 x2 3 x4 x5)) from fnd_f hcd (by decide))
                    replace hP5 := (congrArg (fun z9 => va_P D vwCl z9 _) hq9).mp hP5
                    replace hD5 := (congrArg (fun z9 => va_D _ z9) hq9).mp hD5
                    clear hq9
                    have hq9 : ([sO cy hh a kk dd b w ee qq ik, ia cy (hh 1) 7 (fnd C (cCopy bi si 0 x2 3 x4 x5))] ++ (shB cy qq bi si f)) = ([sO cy hh a kk dd b w ee qq ik, ia cy (hh 1) 7 (fnd C (cCopy bi si 0 x2 3 x4 x5))] ++ (shB cy qq bi si (if cCopy bi si 0 x2 3 x4 x5 = 7 then va_up f (bstN 3) (va_cpy (f (bstN 0)) (f (bstN 3)) (bstN x2) (bstN x4) (bstN x5)) else f))) := congrArg (fun z9 => [sO cy hh a kk dd b w ee qq ik, ia cy (hh 1) 7 (fnd C (cCopy bi si 0 x2 3 x4 x5))] ++ (shB cy qq bi si z9)) (show f = (if cCopy bi si 0 x2 3 x4 x5 = 7 then va_up f (bstN 3) (va_cpy (f (bstN 0)) (f (bstN 3)) (bstN x2) (bstN x4) (bstN x5)) else f) from (if_neg (fun z9 => absurd (hcd.symm.trans z9) (by decide))).symm)
                    replace hP5 := (congrArg (fun z9 => va_P D vwCl z9 _) hq9).mp hP5
                    replace hD5 := (congrArg (fun z9 => va_D _ z9) hq9).mp hD5
                    clear hq9
                    refine re_i () hx hb hr hlocks hP5 hD5 hS5 dX6_copy_107 ?_
                    exact (ans_f hcd (by decide) rfl)
              · replace hP2 : va_P D vwCl ([sO cy hh a kk dd b w ee qq ik, ia cy (hh 1) 7 C] ++ (shB cy qq bi si f)) H2 := hP2
                replace hD2 : va_D (va_A _ sz) ([sO cy hh a kk dd b w ee qq ik, ia cy (hh 1) 7 C] ++ (shB cy qq bi si f)) := hD2
                refine lv_aload_n hx hb dX6_copy_73 rfl (lv_at hl2 2 rfl) ?_
                refine lv_iconst (v := 2) hx hb dX6_copy_74 (by decide) ?_
                refine cV_i (wc := [sO cy hh a kk dd b w ee qq ik, ia cy (hh 1) 7 C]) (wr := shB cy qq bi si f) (rest := []) hx hb hml hown hw hG hK hP2 hD2 hS2 hA hl2 kc_X6_find kw_2_59 [.int 2] (c_X6_find l D cy G H2.size hh a kk dd b w ee qq ik C 2 (by first | omega | assumption)) [0, 1] [2, 3, 4, 5, 6, 7, 8, 9, 10] rfl rfl rfl rfl rfl 0 rfl rfl rfl rfl rfl (Nat.le_of_ble_eq_true rfl) ⟨Nat.le_of_ble_eq_true rfl, Nat.le_of_ble_eq_true rfl⟩ dX6_copy_75 ⟨Nat.le_of_ble_eq_true rfl, Nat.le_of_ble_eq_true rfl⟩ (fun r_75 u9 H3 locs3 hu9 hP3 hD3 hS3 => ?_)
                clear hP2 hD2 hS2 locs2 H2
                have hr_75 := hu9
                replace hP3 : va_P D vwCl (shB cy qq bi si f ++ ([sO cy hh a kk dd b w ee qq ik, ia cy (hh 1) 7 (upd C 2 (C 2 + 1))])) H3 := hP3
                replace hD3 : va_D (va_A _ sz) (shB cy qq bi si f ++ ([sO cy hh a kk dd b w ee qq ik, ia cy (hh 1) 7 (upd C 2 (C 2 + 1))])) := hD3
                replace hP3 := hP3.sub (ws' := [sO cy hh a kk dd b w ee qq ik, ia cy (hh 1) 7 (upd C 2 (C 2 + 1))] ++ (shB cy qq bi si f)) [9, 10, 0, 1, 2, 3, 4, 5, 6, 7, 8] rfl
                replace hD3 := hD3.sub (ws' := [sO cy hh a kk dd b w ee qq ik, ia cy (hh 1) 7 (upd C 2 (C 2 + 1))] ++ (shB cy qq bi si f)) [9, 10, 0, 1, 2, 3, 4, 5, 6, 7, 8] (by decide) rfl
                subst hr_75
                have hcd : cCopy bi si 0 x2 3 x4 x5 = 2 := by unfold cCopy; clear hx hb hml hown hr hlocks hw hsz hA hG hK hP3 hD3 hS3 hl2; grind
                have hq9 : ([sO cy hh a kk dd b w ee qq ik, ia cy (hh 1) 7 (upd C 2 (C 2 + 1))] ++ (shB cy qq bi si f)) = ([sO cy hh a kk dd b w ee qq ik, ia cy (hh 1) 7 (fnd C (cCopy bi si 0 x2 3 x4 x5))] ++ (shB cy qq bi si f)) := congrArg (fun z9 => [sO cy hh a kk dd b w ee qq ik, ia cy (hh 1) 7 z9] ++ (shB cy qq bi si f)) (show (upd C 2 (C 2 + 1)) = (fnd C (cCopy bi si 0 x2 3 x4 x5)) from fnd_f hcd (by decide))
                replace hP3 := (congrArg (fun z9 => va_P D vwCl z9 _) hq9).mp hP3
                replace hD3 := (congrArg (fun z9 => va_D _ z9) hq9).mp hD3
                clear hq9
                have hq9 : ([sO cy hh a kk dd b w ee qq ik, ia cy (hh 1) 7 (fnd C (cCopy bi si 0 x2 3 x4 x5))] ++ (shB cy qq bi si f)) = ([sO cy hh a kk dd b w ee qq ik, ia cy (hh 1) 7 (fnd C (cCopy bi si 0 x2 3 x4 x5))] ++ (shB cy qq bi si (if cCopy bi si 0 x2 3 x4 x5 = 7 then va_up f (bstN 3) (va_cpy (f (bstN 0)) (f (bstN 3)) (bstN x2) (bstN x4) (bstN x5)) else f))) := congrArg (fun z9 => [sO cy hh a kk dd b w ee qq ik, ia cy (hh 1) 7 (fnd C (cCopy bi si 0 x2 3 x4 x5))] ++ (shB cy qq bi si z9)) (show f = (if cCopy bi si 0 x2 3 x4 x5 = 7 then va_up f (bstN 3) (va_cpy (f (bstN 0)) (f (bstN 3)) (bstN x2) (bstN x4) (bstN x5)) else f) from (if_neg (fun z9 => absurd (hcd.symm.trans z9) (by decide))).symm)
                replace hP3 := (congrArg (fun z9 => va_P D vwCl z9 _) hq9).mp hP3
                replace hD3 := (congrArg (fun z9 => va_D _ z9) hq9).mp hD3
                clear hq9
                refine re_i () hx hb hr hlocks hP3 hD3 hS3 dX6_copy_78 ?_
                exact (ans_f hcd (by decide) rfl)
            · replace hP2 : va_P D vwCl ([sO cy hh a kk dd b w ee qq ik, ia cy (hh 1) 7 C] ++ (shB cy qq bi si f)) H2 := hP2
              replace hD2 : va_D (va_A _ sz) ([sO cy hh a kk dd b w ee qq ik, ia cy (hh 1) 7 C] ++ (shB cy qq bi si f)) := hD2
              refine lv_aload_n hx hb dX6_copy_54 rfl (lv_at hl2 2 rfl) ?_
              refine lv_iconst (v := 5) hx hb dX6_copy_55 (by decide) ?_
              refine cV_i (wc := [sO cy hh a kk dd b w ee qq ik, ia cy (hh 1) 7 C]) (wr := shB cy qq bi si f) (rest := []) hx hb hml hown hw hG hK hP2 hD2 hS2 hA hl2 kc_X6_find kw_2_59 [.int 5] (c_X6_find l D cy G H2.size hh a kk dd b w ee qq ik C 5 (by first | omega | assumption)) [0, 1] [2, 3, 4, 5, 6, 7, 8, 9, 10] rfl rfl rfl rfl rfl 0 rfl rfl rfl rfl rfl (Nat.le_of_ble_eq_true rfl) ⟨Nat.le_of_ble_eq_true rfl, Nat.le_of_ble_eq_true rfl⟩ dX6_copy_56 ⟨Nat.le_of_ble_eq_true rfl, Nat.le_of_ble_eq_true rfl⟩ (fun r_56 u9 H3 locs3 hu9 hP3 hD3 hS3 => ?_)
              clear hP2 hD2 hS2 locs2 H2
              have hr_56 := hu9
              replace hP3 : va_P D vwCl (shB cy qq bi si f ++ ([sO cy hh a kk dd b w ee qq ik, ia cy (hh 1) 7 (upd C 5 (C 5 + 1))])) H3 := hP3
              replace hD3 : va_D (va_A _ sz) (shB cy qq bi si f ++ ([sO cy hh a kk dd b w ee qq ik, ia cy (hh 1) 7 (upd C 5 (C 5 + 1))])) := hD3
              replace hP3 := hP3.sub (ws' := [sO cy hh a kk dd b w ee qq ik, ia cy (hh 1) 7 (upd C 5 (C 5 + 1))] ++ (shB cy qq bi si f)) [9, 10, 0, 1, 2, 3, 4, 5, 6, 7, 8] rfl
              replace hD3 := hD3.sub (ws' := [sO cy hh a kk dd b w ee qq ik, ia cy (hh 1) 7 (upd C 5 (C 5 + 1))] ++ (shB cy qq bi si f)) [9, 10, 0, 1, 2, 3, 4, 5, 6, 7, 8] (by decide) rfl
              subst hr_56
              have hcd : cCopy bi si 0 x2 3 x4 x5 = 5 := by unfold cCopy; clear hx hb hml hown hr hlocks hw hsz hA hG hK hP3 hD3 hS3 hl2; grind
              have hq9 : ([sO cy hh a kk dd b w ee qq ik, ia cy (hh 1) 7 (upd C 5 (C 5 + 1))] ++ (shB cy qq bi si f)) = ([sO cy hh a kk dd b w ee qq ik, ia cy (hh 1) 7 (fnd C (cCopy bi si 0 x2 3 x4 x5))] ++ (shB cy qq bi si f)) := congrArg (fun z9 => [sO cy hh a kk dd b w ee qq ik, ia cy (hh 1) 7 z9] ++ (shB cy qq bi si f)) (show (upd C 5 (C 5 + 1)) = (fnd C (cCopy bi si 0 x2 3 x4 x5)) from fnd_f hcd (by decide))
              replace hP3 := (congrArg (fun z9 => va_P D vwCl z9 _) hq9).mp hP3
              replace hD3 := (congrArg (fun z9 => va_D _ z9) hq9).mp hD3
              clear hq9
              have hq9 : ([sO cy hh a kk dd b w ee qq ik, ia cy (hh 1) 7 (fnd C (cCopy bi si 0 x2 3 x4 x5))] ++ (shB cy qq bi si f)) = ([sO cy hh a kk dd b w ee qq ik, ia cy (hh 1) 7 (fnd C (cCopy bi si 0 x2 3 x4 x5))] ++ (shB cy qq bi si (if cCopy bi si 0 x2 3 x4 x5 = 7 then va_up f (bstN 3) (va_cpy (f (bstN 0)) (f (bstN 3)) (bstN x2) (bstN x4) (bstN x5)) else f))) := congrArg (fun z9 => [sO cy hh a kk dd b w ee qq ik, ia cy (hh 1) 7 (fnd C (cCopy bi si 0 x2 3 x4 x5))] ++ (shB cy qq bi si z9)) (show f = (if cCopy bi si 0 x2 3 x4 x5 = 7 then va_up f (bstN 3) (va_cpy (f (bstN 0)) (f (bstN 3)) (bstN x2) (bstN x4) (bstN x5)) else f) from (if_neg (fun z9 => absurd (hcd.symm.trans z9) (by decide))).symm)
              replace hP3 := (congrArg (fun z9 => va_P D vwCl z9 _) hq9).mp hP3
              replace hD3 := (congrArg (fun z9 => va_D _ z9) hq9).mp hD3
              clear hq9
              refine re_i () hx hb hr hlocks hP3 hD3 hS3 dX6_copy_59 ?_
              exact (ans_f hcd (by decide) rfl)
      · replace hP2 : va_P D vwCl ([sO cy hh a kk dd b w ee qq ik, ia cy (hh 1) 7 C, qsB cy qq, hO cy (qq 1) (qq 5) (bi 0) (si 0), hO cy (qq 2) (qq 6) (bi 1) (si 1), hO cy (qq 3) (qq 7) (bi 2) (si 2), hO cy (qq 4) (qq 8) (bi 3) (si 3), la cy (qq 5) 40 (f 0), la cy (qq 6) 40 (f 1), la cy (qq 7) 40 (f 2), la cy (qq 8) 40 (f 3)]) H2 := hP2
        replace hD2 : va_D (va_A _ sz) ([sO cy hh a kk dd b w ee qq ik, ia cy (hh 1) 7 C, qsB cy qq, hO cy (qq 1) (qq 5) (bi 0) (si 0), hO cy (qq 2) (qq 6) (bi 1) (si 1), hO cy (qq 3) (qq 7) (bi 2) (si 2), hO cy (qq 4) (qq 8) (bi 3) (si 3), la cy (qq 5) 40 (f 0), la cy (qq 6) 40 (f 1), la cy (qq 7) 40 (f 2), la cy (qq 8) 40 (f 3)]) := hD2
        refine lv_aload_n hx hb dX6_copy_22 rfl (lv_at hl0 0 rfl) ?_
        refine va_get (D := D) (ci := 6) (v := .ref (qq 0)) (C := RX6) (T := TX6) (N := 9) hx hb hw iX6 hown hK hP2 0 rfl rfl 7 (by decide) (hw _ kw_2_34) (fun _ h9 => h9) rfl dX6_copy_23 ?_
        refine lv_iload_n hx hb dX6_copy_26 rfl (lv_at hl0 1 rfl) ?_
        refine ald_q hx hb hK hP2 2 3 rfl rfl rfl 1 rfl (by first | omega | assumption) (by decide) (rfl) dX6_copy_27 ?_
        refine lv_astore (lv' := [(6, .ref (qq 2)), (0, .ref (hh 0)), (1, .int 1), (2, .int x2), (3, .int x3), (4, .int x4), (5, .int x5)]) hx hb dX6_copy_28 hl0 (by decide) rfl (fun ls1 hl1 => ?_)
        clear hl0 ls0
        refine lv_aload_n hx hb dX6_copy_30 rfl (lv_at hl1 1 rfl) ?_
        refine va_get (D := D) (ci := 6) (v := .ref (qq 0)) (C := RX6) (T := TX6) (N := 9) hx hb hw iX6 hown hK hP2 0 rfl rfl 7 (by decide) (hw _ kw_2_34) (fun _ h9 => h9) rfl dX6_copy_31 ?_
        rcases in3 c_13 with rfl | rfl | rfl | rfl
        · refine lv_iload_n hx hb dX6_copy_34 rfl (lv_at hl1 4 rfl) ?_
          refine ald_q hx hb hK hP2 2 3 rfl rfl rfl 0 rfl (by first | omega | assumption) (by decide) (rfl) dX6_copy_35 ?_
          refine lv_astore (lv' := [(7, .ref (qq 1)), (6, .ref (qq 2)), (0, .ref (hh 0)), (1, .int 1), (2, .int x2), (3, .int 0), (4, .int x4), (5, .int x5)]) hx hb dX6_copy_36 hl1 (by decide) rfl (fun ls2 hl2 => ?_)
          clear hl1 ls1
          refine lv_aload hx hb dX6_copy_38 (lv_at hl2 1 rfl) ?_
          refine va_get (D := D) (ci := 2) (v := .int (bi 1)) (C := RX2) (T := TX2) (N := 3) hx hb hw iX2 hown hK hP2 4 rfl rfl 1 (by decide) (hw _ kw_2_16) (fun _ h9 => h9) rfl dX6_copy_40 ?_
          refine lv_if_eq (tgt := 54) hx hb dX6_copy_43 (by decide) (fun c_43 => ?_) (fun c_43 => ?_)
          · replace hP2 : va_P D vwCl ([sO cy hh a kk dd b w ee qq ik, ia cy (hh 1) 7 C] ++ (shB cy qq bi si f)) H2 := hP2
            replace hD2 : va_D (va_A _ sz) ([sO cy hh a kk dd b w ee qq ik, ia cy (hh 1) 7 C] ++ (shB cy qq bi si f)) := hD2
            refine lv_aload_n hx hb dX6_copy_54 rfl (lv_at hl2 2 rfl) ?_
            refine lv_iconst (v := 5) hx hb dX6_copy_55 (by decide) ?_
            refine cV_i (wc := [sO cy hh a kk dd b w ee qq ik, ia cy (hh 1) 7 C]) (wr := shB cy qq bi si f) (rest := []) hx hb hml hown hw hG hK hP2 hD2 hS2 hA hl2 kc_X6_find kw_2_59 [.int 5] (c_X6_find l D cy G H2.size hh a kk dd b w ee qq ik C 5 (by first | omega | assumption)) [0, 1] [2, 3, 4, 5, 6, 7, 8, 9, 10] rfl rfl rfl rfl rfl 0 rfl rfl rfl rfl rfl (Nat.le_of_ble_eq_true rfl) ⟨Nat.le_of_ble_eq_true rfl, Nat.le_of_ble_eq_true rfl⟩ dX6_copy_56 ⟨Nat.le_of_ble_eq_true rfl, Nat.le_of_ble_eq_true rfl⟩ (fun r_56 u9 H3 locs3 hu9 hP3 hD3 hS3 => ?_)
            clear hP2 hD2 hS2 locs2 H2
            have hr_56 := hu9
            replace hP3 : va_P D vwCl (shB cy qq bi si f ++ ([sO cy hh a kk dd b w ee qq ik, ia cy (hh 1) 7 (upd C 5 (C 5 + 1))])) H3 := hP3
            replace hD3 : va_D (va_A _ sz) (shB cy qq bi si f ++ ([sO cy hh a kk dd b w ee qq ik, ia cy (hh 1) 7 (upd C 5 (C 5 + 1))])) := hD3
            replace hP3 := hP3.sub (ws' := [sO cy hh a kk dd b w ee qq ik, ia cy (hh 1) 7 (upd C 5 (C 5 + 1))] ++ (shB cy qq bi si f)) [9, 10, 0, 1, 2, 3, 4, 5, 6, 7, 8] rfl
            replace hD3 := hD3.sub (ws' := [sO cy hh a kk dd b w ee qq ik, ia cy (hh 1) 7 (upd C 5 (C 5 + 1))] ++ (shB cy qq bi si f)) [9, 10, 0, 1, 2, 3, 4, 5, 6, 7, 8] (by decide) rfl
            subst hr_56
            have hcd : cCopy bi si 1 x2 0 x4 x5 = 5 := by unfold cCopy; clear hx hb hml hown hr hlocks hw hsz hA hG hK hP3 hD3 hS3 hl2; grind
            have hq9 : ([sO cy hh a kk dd b w ee qq ik, ia cy (hh 1) 7 (upd C 5 (C 5 + 1))] ++ (shB cy qq bi si f)) = ([sO cy hh a kk dd b w ee qq ik, ia cy (hh 1) 7 (fnd C (cCopy bi si 1 x2 0 x4 x5))] ++ (shB cy qq bi si f)) := congrArg (fun z9 => [sO cy hh a kk dd b w ee qq ik, ia cy (hh 1) 7 z9] ++ (shB cy qq bi si f)) (show (upd C 5 (C 5 + 1)) = (fnd C (cCopy bi si 1 x2 0 x4 x5)) from fnd_f hcd (by decide))
            replace hP3 := (congrArg (fun z9 => va_P D vwCl z9 _) hq9).mp hP3
            replace hD3 := (congrArg (fun z9 => va_D _ z9) hq9).mp hD3
            clear hq9
            have hq9 : ([sO cy hh a kk dd b w ee qq ik, ia cy (hh 1) 7 (fnd C (cCopy bi si 1 x2 0 x4 x5))] ++ (shB cy qq bi si f)) = ([sO cy hh a kk dd b w ee qq ik, ia cy (hh 1) 7 (fnd C (cCopy bi si 1 x2 0 x4 x5))] ++ (shB cy qq bi si (if cCopy bi si 1 x2 0 x4 x5 = 7 then va_up f (bstN 0) (va_cpy (f (bstN 1)) (f (bstN 0)) (bstN x2) (bstN x4) (bstN x5)) else f))) := congrArg (fun z9 => [sO cy hh a kk dd b w ee qq ik, ia cy (hh 1) 7 (fnd C (cCopy bi si 1 x2 0 x4 x5))] ++ (shB cy qq bi si z9)) (show f = (if cCopy bi si 1 x2 0 x4 x5 = 7 then va_up f (bstN 0) (va_cpy (f (bstN 1)) (f (bstN 0)) (bstN x2) (bstN x4) (bstN x5)) else f) from (if_neg (fun z9 => absurd (hcd.symm.trans z9) (by decide))).symm)
            replace hP3 := (congrArg (fun z9 => va_P D vwCl z9 _) hq9).mp hP3
            replace hD3 := (congrArg (fun z9 => va_D _ z9) hq9).mp hD3
            clear hq9
            refine re_i () hx hb hr hlocks hP3 hD3 hS3 dX6_copy_59 ?_
            exact (ans_f hcd (by decide) rfl)
          · refine lv_aload hx hb dX6_copy_46 (lv_at hl2 0 rfl) ?_
            refine va_get (D := D) (ci := 2) (v := .int (bi 0)) (C := RX2) (T := TX2) (N := 3) hx hb hw iX2 hown hK hP2 3 rfl rfl 1 (by decide) (hw _ kw_2_16) (fun _ h9 => h9) rfl dX6_copy_48 ?_
            refine lv_if_ne (tgt := 60) hx hb dX6_copy_51 (by decide) (fun c_51 => ?_) (fun c_51 => ?_)
            · refine lv_aload hx hb dX6_copy_60 (lv_at hl2 1 rfl) ?_
              refine va_get (D := D) (ci := 2) (v := .int (bi 1)) (C := RX2) (T := TX2) (N := 3) hx hb hw iX2 hown hK hP2 4 rfl rfl 1 (by decide) (hw _ kw_2_16) (fun _ h9 => h9) rfl dX6_copy_62 ?_
              refine lv_aload hx hb dX6_copy_65 (lv_at hl2 0 rfl) ?_
              refine va_get (D := D) (ci := 2) (v := .int (bi 0)) (C := RX2) (T := TX2) (N := 3) hx hb hw iX2 hown hK hP2 3 rfl rfl 1 (by decide) (hw _ kw_2_16) (fun _ h9 => h9) rfl dX6_copy_67 ?_
              refine lv_icmp_eq (tgt := 79) hx hb dX6_copy_70 (by decide) (fun c_70 => ?_) (fun c_70 => ?_)
              · refine lv_aload hx hb dX6_copy_79 (lv_at hl2 1 rfl) ?_
                refine lv_iload_n hx hb dX6_copy_81 rfl (lv_at hl2 4 rfl) ?_
                refine lv_iload hx hb dX6_copy_82 (lv_at hl2 7 rfl) ?_
                refine rV_i (wc := [hO cy (qq 2) (qq 6) (bi 1) (si 1), la cy (qq 6) 40 (f 1)]) (rest := []) hx hb hml hown hw hG hK hP2 hS2 hA hl2 kc_X2_hasRow kw_4_12 [.int x2, .int x5] (c_X2_hasRow l D cy G H2.size (qq 2) (qq 6) (bi 1) (si 1) (f 1) x2 x5) [4, 8] rfl 0 rfl rfl rfl rfl rfl (Nat.le_of_ble_eq_true rfl) ⟨Nat.le_of_ble_eq_true rfl, Nat.le_of_ble_eq_true rfl⟩ dX6_copy_84 ⟨Nat.le_of_ble_eq_true rfl, Nat.le_of_ble_eq_true rfl⟩ (fun r_84 H3 locs3 hr_84 hP3 hS3 => ?_)
                have hD3 := hD2
                clear hP2 hD2 hS2 locs2 H2
                subst hr_84
                refine lb_eq (tgt := 102) hx hb dX6_copy_87 (by decide) (fun c_87 => ?_) (fun c_87 => ?_)
                · replace hP3 : va_P D vwCl ([sO cy hh a kk dd b w ee qq ik, ia cy (hh 1) 7 C] ++ (shB cy qq bi si f)) H3 := hP3
                  replace hD3 : va_D (va_A _ sz) ([sO cy hh a kk dd b w ee qq ik, ia cy (hh 1) 7 C] ++ (shB cy qq bi si f)) := hD3
                  refine lv_aload_n hx hb dX6_copy_102 rfl (lv_at hl2 2 rfl) ?_
                  refine lv_iconst (v := 0) hx hb dX6_copy_103 (by decide) ?_
                  refine cV_i (wc := [sO cy hh a kk dd b w ee qq ik, ia cy (hh 1) 7 C]) (wr := shB cy qq bi si f) (rest := []) hx hb hml hown hw hG hK hP3 hD3 hS3 hA hl2 kc_X6_find kw_2_59 [.int 0] (c_X6_find l D cy G H3.size hh a kk dd b w ee qq ik C 0 (by first | omega | assumption)) [0, 1] [2, 3, 4, 5, 6, 7, 8, 9, 10] rfl rfl rfl rfl rfl 0 rfl rfl rfl rfl rfl (Nat.le_of_ble_eq_true rfl) ⟨Nat.le_of_ble_eq_true rfl, Nat.le_of_ble_eq_true rfl⟩ dX6_copy_104 ⟨Nat.le_of_ble_eq_true rfl, Nat.le_of_ble_eq_true rfl⟩ (fun r_104 u9 H4 locs4 hu9 hP4 hD4 hS4 => ?_)
                  clear hP3 hD3 hS3 locs3 H3
                  have hr_104 := hu9
                  replace hP4 : va_P D vwCl (shB cy qq bi si f ++ ([sO cy hh a kk dd b w ee qq ik, ia cy (hh 1) 7 (upd C 0 (C 0 + 1))])) H4 := hP4
                  replace hD4 : va_D (va_A _ sz) (shB cy qq bi si f ++ ([sO cy hh a kk dd b w ee qq ik, ia cy (hh 1) 7 (upd C 0 (C 0 + 1))])) := hD4
                  replace hP4 := hP4.sub (ws' := [sO cy hh a kk dd b w ee qq ik, ia cy (hh 1) 7 (upd C 0 (C 0 + 1))] ++ (shB cy qq bi si f)) [9, 10, 0, 1, 2, 3, 4, 5, 6, 7, 8] rfl
                  replace hD4 := hD4.sub (ws' := [sO cy hh a kk dd b w ee qq ik, ia cy (hh 1) 7 (upd C 0 (C 0 + 1))] ++ (shB cy qq bi si f)) [9, 10, 0, 1, 2, 3, 4, 5, 6, 7, 8] (by decide) rfl
                  subst hr_104
                  have hcd : cCopy bi si 1 x2 0 x4 x5 = 0 := by unfold cCopy; clear hx hb hml hown hr hlocks hw hsz hA hG hK hP4 hD4 hS4 hl2; grind
                  have hq9 : ([sO cy hh a kk dd b w ee qq ik, ia cy (hh 1) 7 (upd C 0 (C 0 + 1))] ++ (shB cy qq bi si f)) = ([sO cy hh a kk dd b w ee qq ik, ia cy (hh 1) 7 (fnd C (cCopy bi si 1 x2 0 x4 x5))] ++ (shB cy qq bi si f)) := congrArg (fun z9 => [sO cy hh a kk dd b w ee qq ik, ia cy (hh 1) 7 z9] ++ (shB cy qq bi si f)) (show (upd C 0 (C 0 + 1)) = (fnd C (cCopy bi si 1 x2 0 x4 x5)) from fnd_f hcd (by decide))
                  replace hP4 := (congrArg (fun z9 => va_P D vwCl z9 _) hq9).mp hP4
                  replace hD4 := (congrArg (fun z9 => va_D _ z9) hq9).mp hD4
                  clear hq9
                  have hq9 : ([sO cy hh a kk dd b w ee qq ik, ia cy (hh 1) 7 (fnd C (cCopy bi si 1 x2 0 x4 x5))] ++ (shB cy qq bi si f)) = ([sO cy hh a kk dd b w ee qq ik, ia cy (hh 1) 7 (fnd C (cCopy bi si 1 x2 0 x4 x5))] ++ (shB cy qq bi si (if cCopy bi si 1 x2 0 x4 x5 = 7 then va_up f (bstN 0) (va_cpy (f (bstN 1)) (f (bstN 0)) (bstN x2) (bstN x4) (bstN x5)) else f))) := congrArg (fun z9 => [sO cy hh a kk dd b w ee qq ik, ia cy (hh 1) 7 (fnd C (cCopy bi si 1 x2 0 x4 x5))] ++ (shB cy qq bi si z9)) (show f = (if cCopy bi si 1 x2 0 x4 x5 = 7 then va_up f (bstN 0) (va_cpy (f (bstN 1)) (f (bstN 0)) (bstN x2) (bstN x4) (bstN x5)) else f) from (if_neg (fun z9 => absurd (hcd.symm.trans z9) (by decide))).symm)
                  replace hP4 := (congrArg (fun z9 => va_P D vwCl z9 _) hq9).mp hP4
                  replace hD4 := (congrArg (fun z9 => va_D _ z9) hq9).mp hD4
                  clear hq9
                  refine re_i () hx hb hr hlocks hP4 hD4 hS4 dX6_copy_107 ?_
                  exact (ans_f hcd (by decide) rfl)
                · refine lv_aload hx hb dX6_copy_90 (lv_at hl2 0 rfl) ?_
                  refine lv_iload hx hb dX6_copy_92 (lv_at hl2 6 rfl) ?_
                  refine lv_iload hx hb dX6_copy_94 (lv_at hl2 7 rfl) ?_
                  refine rV_i (wc := [hO cy (qq 1) (qq 5) (bi 0) (si 0), la cy (qq 5) 40 (f 0)]) (rest := []) hx hb hml hown hw hG hK hP3 hS3 hA hl2 kc_X2_hasRow kw_4_12 [.int x4, .int x5] (c_X2_hasRow l D cy G H3.size (qq 1) (qq 5) (bi 0) (si 0) (f 0) x4 x5) [3, 7] rfl 0 rfl rfl rfl rfl rfl (Nat.le_of_ble_eq_true rfl) ⟨Nat.le_of_ble_eq_true rfl, Nat.le_of_ble_eq_true rfl⟩ dX6_copy_96 ⟨Nat.le_of_ble_eq_true rfl, Nat.le_of_ble_eq_true rfl⟩ (fun r_96 H4 locs4 hr_96 hP4 hS4 => ?_)
                  have hD4 := hD3
                  clear hP3 hD3 hS3 locs3 H3
                  subst hr_96
                  refine lb_ne (tgt := 108) hx hb dX6_copy_99 (by decide) (fun c_99 => ?_) (fun c_99 => ?_)
                  · have h8 := c_87
                    rw [(hso 1 (by decide)).1] at h8
                    have h9 := c_99
                    rw [(hso 0 (by decide)).1] at h9
                    obtain ⟨a1, n1, hab, rfl, rfl⟩ := row_at (by omega) h8
                    obtain ⟨a2, n2, hab2, rfl, e4⟩ := row_at (by omega) h9
                    obtain rfl : n1 = n2 := (nI_eq (by omega) (by omega)).mp e4
                    have hba1 : bstN (nI a1) = a1 := bst_n (by omega)
                    have hba2 : bstN (nI a2) = a2 := bst_n (by omega)
                    have hbn : bstN (nI n1) = n1 := bst_n (by omega)
                    refine lv_aload hx hb dX6_copy_108 (lv_at hl2 1 rfl) ?_
                    refine va_get (D := D) (ci := 2) (v := .ref (qq 6)) (C := RX2) (T := TX2) (N := 3) hx hb hw iX2 hown hK hP4 4 rfl rfl 0 (by decide) (hw _ kw_2_14) (fun _ h9 => h9) rfl dX6_copy_110 ?_
                    refine lv_iload_n hx hb dX6_copy_113 rfl (lv_at hl2 4 rfl) ?_
                    refine lv_aload hx hb dX6_copy_114 (lv_at hl2 0 rfl) ?_
                    refine va_get (D := D) (ci := 2) (v := .ref (qq 5)) (C := RX2) (T := TX2) (N := 3) hx hb hw iX2 hown hK hP4 3 rfl rfl 0 (by decide) (hw _ kw_2_14) (fun _ h9 => h9) rfl dX6_copy_116 ?_
                    refine lv_iload hx hb dX6_copy_119 (lv_at hl2 6 rfl) ?_
                    refine lv_iload hx hb dX6_copy_121 (lv_at hl2 7 rfl) ?_
                    refine acpL (f := f 1) (g := f 0) (ws' := [sO cy hh a kk dd b w ee qq ik, ia cy (hh 1) 7 C, qsB cy qq, hO cy (qq 1) (qq 5) (bi 0) (si 0), hO cy (qq 2) (qq 6) (bi 1) (si 1), hO cy (qq 3) (qq 7) (bi 2) (si 2), hO cy (qq 4) (qq 8) (bi 3) (si 3), la cy (qq 5) 40 (va_cpy (f 1) (f 0) a1 a2 n1), la cy (qq 6) 40 (f 1), la cy (qq 7) 40 (f 2), la cy (qq 8) 40 (f 3)]) hx hb hml hl2 hw hown kw_4_16 kw_2_162 kw_2_161 kw_1_9 hK hP4 hD4 hS4 8 7 1 rfl rfl rfl a1 a2 n1 rfl rfl rfl (by omega) (by omega) (by omega) (by first | decide | omega) (by first | decide | omega) rfl (Nat.le_of_ble_eq_true rfl) (Nat.le_of_ble_eq_true rfl) dX6_copy_123 (fun H5 locs5 hP5 hD5 hS5 => ?_)
                    clear hP4 hD4 hS4 locs4 H4
                    replace hP5 : va_P D vwCl ([sO cy hh a kk dd b w ee qq ik, ia cy (hh 1) 7 C] ++ (shB cy qq bi si (va_up f 0 (va_cpy (f 1) (f 0) a1 a2 n1)))) H5 := hP5
                    replace hD5 : va_D (va_A _ sz) ([sO cy hh a kk dd b w ee qq ik, ia cy (hh 1) 7 C] ++ (shB cy qq bi si (va_up f 0 (va_cpy (f 1) (f 0) a1 a2 n1)))) := hD5
                    refine lv_iload hx hb dX6_copy_126 (lv_at hl2 7 rfl) ?_
                    have hcd : cCopy bi si 1 (nI a1) 0 (nI a2) (nI n1) = 7 := by unfold cCopy; clear hx hb hml hown hr hlocks hw hsz hA hG hK hP5 hD5 hS5 hl2; grind
                    have hq9 : ([sO cy hh a kk dd b w ee qq ik, ia cy (hh 1) 7 C] ++ (shB cy qq bi si (va_up f 0 (va_cpy (f 1) (f 0) a1 a2 n1)))) = ([sO cy hh a kk dd b w ee qq ik, ia cy (hh 1) 7 (fnd C (cCopy bi si 1 (nI a1) 0 (nI a2) (nI n1)))] ++ (shB cy qq bi si (va_up f 0 (va_cpy (f 1) (f 0) a1 a2 n1)))) := congrArg (fun z9 => [sO cy hh a kk dd b w ee qq ik, ia cy (hh 1) 7 z9] ++ (shB cy qq bi si (va_up f 0 (va_cpy (f 1) (f 0) a1 a2 n1)))) (show C = (fnd C (cCopy bi si 1 (nI a1) 0 (nI a2) (nI n1))) from fnd_o hcd)
                    replace hP5 := (congrArg (fun z9 => va_P D vwCl z9 _) hq9).mp hP5
                    replace hD5 := (congrArg (fun z9 => va_D _ z9) hq9).mp hD5
                    clear hq9
                    have hq9 : ([sO cy hh a kk dd b w ee qq ik, ia cy (hh 1) 7 (fnd C (cCopy bi si 1 (nI a1) 0 (nI a2) (nI n1)))] ++ (shB cy qq bi si (va_up f 0 (va_cpy (f 1) (f 0) a1 a2 n1)))) = ([sO cy hh a kk dd b w ee qq ik, ia cy (hh 1) 7 (fnd C (cCopy bi si 1 (nI a1) 0 (nI a2) (nI n1)))] ++ (shB cy qq bi si (if cCopy bi si 1 (nI a1) 0 (nI a2) (nI n1) = 7 then va_up f (bstN 0) (va_cpy (f (bstN 1)) (f (bstN 0)) (bstN (nI a1)) (bstN (nI a2)) (bstN (nI n1))) else f))) := congrArg (fun z9 => [sO cy hh a kk dd b w ee qq ik, ia cy (hh 1) 7 (fnd C (cCopy bi si 1 (nI a1) 0 (nI a2) (nI n1)))] ++ (shB cy qq bi si z9)) (show (va_up f 0 (va_cpy (f 1) (f 0) a1 a2 n1)) = (if cCopy bi si 1 (nI a1) 0 (nI a2) (nI n1) = 7 then va_up f (bstN 0) (va_cpy (f (bstN 1)) (f (bstN 0)) (bstN (nI a1)) (bstN (nI a2)) (bstN (nI n1))) else f) from by rw [if_pos hcd]; simp only [hba1, hba2, hbn, hb0, hb1, hb2, hb3])
                    replace hP5 := (congrArg (fun z9 => va_P D vwCl z9 _) hq9).mp hP5
                    replace hD5 := (congrArg (fun z9 => va_D _ z9) hq9).mp hD5
                    clear hq9
                    refine re_i () hx hb hr hlocks hP5 hD5 hS5 dX6_copy_128 ?_
                    exact (ans_o hcd (rfl))
                  · replace hP4 : va_P D vwCl ([sO cy hh a kk dd b w ee qq ik, ia cy (hh 1) 7 C] ++ (shB cy qq bi si f)) H4 := hP4
                    replace hD4 : va_D (va_A _ sz) ([sO cy hh a kk dd b w ee qq ik, ia cy (hh 1) 7 C] ++ (shB cy qq bi si f)) := hD4
                    refine lv_aload_n hx hb dX6_copy_102 rfl (lv_at hl2 2 rfl) ?_
                    refine lv_iconst (v := 0) hx hb dX6_copy_103 (by decide) ?_
                    refine cV_i (wc := [sO cy hh a kk dd b w ee qq ik, ia cy (hh 1) 7 C]) (wr := shB cy qq bi si f) (rest := []) hx hb hml hown hw hG hK hP4 hD4 hS4 hA hl2 kc_X6_find kw_2_59 [.int 0] (c_X6_find l D cy G H4.size hh a kk dd b w ee qq ik C 0 (by first | omega | assumption)) [0, 1] [2, 3, 4, 5, 6, 7, 8, 9, 10] rfl rfl rfl rfl rfl 0 rfl rfl rfl rfl rfl (Nat.le_of_ble_eq_true rfl) ⟨Nat.le_of_ble_eq_true rfl, Nat.le_of_ble_eq_true rfl⟩ dX6_copy_104 ⟨Nat.le_of_ble_eq_true rfl, Nat.le_of_ble_eq_true rfl⟩ (fun r_104 u9 H5 locs5 hu9 hP5 hD5 hS5 => ?_)
                    clear hP4 hD4 hS4 locs4 H4
                    have hr_104 := hu9
                    replace hP5 : va_P D vwCl (shB cy qq bi si f ++ ([sO cy hh a kk dd b w ee qq ik, ia cy (hh 1) 7 (upd C 0 (C 0 + 1))])) H5 := hP5
                    replace hD5 : va_D (va_A _ sz) (shB cy qq bi si f ++ ([sO cy hh a kk dd b w ee qq ik, ia cy (hh 1) 7 (upd C 0 (C 0 + 1))])) := hD5
                    replace hP5 := hP5.sub (ws' := [sO cy hh a kk dd b w ee qq ik, ia cy (hh 1) 7 (upd C 0 (C 0 + 1))] ++ (shB cy qq bi si f)) [9, 10, 0, 1, 2, 3, 4, 5, 6, 7, 8] rfl
                    replace hD5 := hD5.sub (ws' := [sO cy hh a kk dd b w ee qq ik, ia cy (hh 1) 7 (upd C 0 (C 0 + 1))] ++ (shB cy qq bi si f)) [9, 10, 0, 1, 2, 3, 4, 5, 6, 7, 8] (by decide) rfl
                    subst hr_104
                    have hcd : cCopy bi si 1 x2 0 x4 x5 = 0 := by unfold cCopy; clear hx hb hml hown hr hlocks hw hsz hA hG hK hP5 hD5 hS5 hl2; grind
                    have hq9 : ([sO cy hh a kk dd b w ee qq ik, ia cy (hh 1) 7 (upd C 0 (C 0 + 1))] ++ (shB cy qq bi si f)) = ([sO cy hh a kk dd b w ee qq ik, ia cy (hh 1) 7 (fnd C (cCopy bi si 1 x2 0 x4 x5))] ++ (shB cy qq bi si f)) := congrArg (fun z9 => [sO cy hh a kk dd b w ee qq ik, ia cy (hh 1) 7 z9] ++ (shB cy qq bi si f)) (show (upd C 0 (C 0 + 1)) = (fnd C (cCopy bi si 1 x2 0 x4 x5)) from fnd_f hcd (by decide))
                    replace hP5 := (congrArg (fun z9 => va_P D vwCl z9 _) hq9).mp hP5
                    replace hD5 := (congrArg (fun z9 => va_D _ z9) hq9).mp hD5
                    clear hq9
                    have hq9 : ([sO cy hh a kk dd b w ee qq ik, ia cy (hh 1) 7 (fnd C (cCopy bi si 1 x2 0 x4 x5))] ++ (shB cy qq bi si f)) = ([sO cy hh a kk dd b w ee qq ik, ia cy (hh 1) 7 (fnd C (cCopy bi si 1 x2 0 x4 x5))] ++ (shB cy qq bi si (if cCopy bi si 1 x2 0 x4 x5 = 7 then va_up f (bstN 0) (va_cpy (f (bstN 1)) (f (bstN 0)) (bstN x2) (bstN x4) (bstN x5)) else f))) := congrArg (fun z9 => [sO cy hh a kk dd b w ee qq ik, ia cy (hh 1) 7 (fnd C (cCopy bi si 1 x2 0 x4 x5))] ++ (shB cy qq bi si z9)) (show f = (if cCopy bi si 1 x2 0 x4 x5 = 7 then va_up f (bstN 0) (va_cpy (f (bstN 1)) (f (bstN 0)) (bstN x2) (bstN x4) (bstN x5)) else f) from (if_neg (fun z9 => absurd (hcd.symm.trans z9) (by decide))).symm)
                    replace hP5 := (congrArg (fun z9 => va_P D vwCl z9 _) hq9).mp hP5
                    replace hD5 := (congrArg (fun z9 => va_D _ z9) hq9).mp hD5
                    clear hq9
                    refine re_i () hx hb hr hlocks hP5 hD5 hS5 dX6_copy_107 ?_
                    exact (ans_f hcd (by decide) rfl)
              · replace hP2 : va_P D vwCl ([sO cy hh a kk dd b w ee qq ik, ia cy (hh 1) 7 C] ++ (shB cy qq bi si f)) H2 := hP2
                replace hD2 : va_D (va_A _ sz) ([sO cy hh a kk dd b w ee qq ik, ia cy (hh 1) 7 C] ++ (shB cy qq bi si f)) := hD2
                refine lv_aload_n hx hb dX6_copy_73 rfl (lv_at hl2 2 rfl) ?_
                refine lv_iconst (v := 2) hx hb dX6_copy_74 (by decide) ?_
                refine cV_i (wc := [sO cy hh a kk dd b w ee qq ik, ia cy (hh 1) 7 C]) (wr := shB cy qq bi si f) (rest := []) hx hb hml hown hw hG hK hP2 hD2 hS2 hA hl2 kc_X6_find kw_2_59 [.int 2] (c_X6_find l D cy G H2.size hh a kk dd b w ee qq ik C 2 (by first | omega | assumption)) [0, 1] [2, 3, 4, 5, 6, 7, 8, 9, 10] rfl rfl rfl rfl rfl 0 rfl rfl rfl rfl rfl (Nat.le_of_ble_eq_true rfl) ⟨Nat.le_of_ble_eq_true rfl, Nat.le_of_ble_eq_true rfl⟩ dX6_copy_75 ⟨Nat.le_of_ble_eq_true rfl, Nat.le_of_ble_eq_true rfl⟩ (fun r_75 u9 H3 locs3 hu9 hP3 hD3 hS3 => ?_)
                clear hP2 hD2 hS2 locs2 H2
                have hr_75 := hu9
                replace hP3 : va_P D vwCl (shB cy qq bi si f ++ ([sO cy hh a kk dd b w ee qq ik, ia cy (hh 1) 7 (upd C 2 (C 2 + 1))])) H3 := hP3
                replace hD3 : va_D (va_A _ sz) (shB cy qq bi si f ++ ([sO cy hh a kk dd b w ee qq ik, ia cy (hh 1) 7 (upd C 2 (C 2 + 1))])) := hD3
                replace hP3 := hP3.sub (ws' := [sO cy hh a kk dd b w ee qq ik, ia cy (hh 1) 7 (upd C 2 (C 2 + 1))] ++ (shB cy qq bi si f)) [9, 10, 0, 1, 2, 3, 4, 5, 6, 7, 8] rfl
                replace hD3 := hD3.sub (ws' := [sO cy hh a kk dd b w ee qq ik, ia cy (hh 1) 7 (upd C 2 (C 2 + 1))] ++ (shB cy qq bi si f)) [9, 10, 0, 1, 2, 3, 4, 5, 6, 7, 8] (by decide) rfl
                subst hr_75
                have hcd : cCopy bi si 1 x2 0 x4 x5 = 2 := by unfold cCopy; clear hx hb hml hown hr hlocks hw hsz hA hG hK hP3 hD3 hS3 hl2; grind
                have hq9 : ([sO cy hh a kk dd b w ee qq ik, ia cy (hh 1) 7 (upd C 2 (C 2 + 1))] ++ (shB cy qq bi si f)) = ([sO cy hh a kk dd b w ee qq ik, ia cy (hh 1) 7 (fnd C (cCopy bi si 1 x2 0 x4 x5))] ++ (shB cy qq bi si f)) := congrArg (fun z9 => [sO cy hh a kk dd b w ee qq ik, ia cy (hh 1) 7 z9] ++ (shB cy qq bi si f)) (show (upd C 2 (C 2 + 1)) = (fnd C (cCopy bi si 1 x2 0 x4 x5)) from fnd_f hcd (by decide))
                replace hP3 := (congrArg (fun z9 => va_P D vwCl z9 _) hq9).mp hP3
                replace hD3 := (congrArg (fun z9 => va_D _ z9) hq9).mp hD3
                clear hq9
                have hq9 : ([sO cy hh a kk dd b w ee qq ik, ia cy (hh 1) 7 (fnd C (cCopy bi si 1 x2 0 x4 x5))] ++ (shB cy qq bi si f)) = ([sO cy hh a kk dd b w ee qq ik, ia cy (hh 1) 7 (fnd C (cCopy bi si 1 x2 0 x4 x5))] ++ (shB cy qq bi si (if cCopy bi si 1 x2 0 x4 x5 = 7 then va_up f (bstN 0) (va_cpy (f (bstN 1)) (f (bstN 0)) (bstN x2) (bstN x4) (bstN x5)) else f))) := congrArg (fun z9 => [sO cy hh a kk dd b w ee qq ik, ia cy (hh 1) 7 (fnd C (cCopy bi si 1 x2 0 x4 x5))] ++ (shB cy qq bi si z9)) (show f = (if cCopy bi si 1 x2 0 x4 x5 = 7 then va_up f (bstN 0) (va_cpy (f (bstN 1)) (f (bstN 0)) (bstN x2) (bstN x4) (bstN x5)) else f) from (if_neg (fun z9 => absurd (hcd.symm.trans z9) (by decide))).symm)
                replace hP3 := (congrArg (fun z9 => va_P D vwCl z9 _) hq9).mp hP3
                replace hD3 := (congrArg (fun z9 => va_D _ z9) hq9).mp hD3
                clear hq9
                refine re_i () hx hb hr hlocks hP3 hD3 hS3 dX6_copy_78 ?_
                exact (ans_f hcd (by decide) rfl)
            · replace hP2 : va_P D vwCl ([sO cy hh a kk dd b w ee qq ik, ia cy (hh 1) 7 C] ++ (shB cy qq bi si f)) H2 := hP2
              replace hD2 : va_D (va_A _ sz) ([sO cy hh a kk dd b w ee qq ik, ia cy (hh 1) 7 C] ++ (shB cy qq bi si f)) := hD2
              refine lv_aload_n hx hb dX6_copy_54 rfl (lv_at hl2 2 rfl) ?_
              refine lv_iconst (v := 5) hx hb dX6_copy_55 (by decide) ?_
              refine cV_i (wc := [sO cy hh a kk dd b w ee qq ik, ia cy (hh 1) 7 C]) (wr := shB cy qq bi si f) (rest := []) hx hb hml hown hw hG hK hP2 hD2 hS2 hA hl2 kc_X6_find kw_2_59 [.int 5] (c_X6_find l D cy G H2.size hh a kk dd b w ee qq ik C 5 (by first | omega | assumption)) [0, 1] [2, 3, 4, 5, 6, 7, 8, 9, 10] rfl rfl rfl rfl rfl 0 rfl rfl rfl rfl rfl (Nat.le_of_ble_eq_true rfl) ⟨Nat.le_of_ble_eq_true rfl, Nat.le_of_ble_eq_true rfl⟩ dX6_copy_56 ⟨Nat.le_of_ble_eq_true rfl, Nat.le_of_ble_eq_true rfl⟩ (fun r_56 u9 H3 locs3 hu9 hP3 hD3 hS3 => ?_)
              clear hP2 hD2 hS2 locs2 H2
              have hr_56 := hu9
              replace hP3 : va_P D vwCl (shB cy qq bi si f ++ ([sO cy hh a kk dd b w ee qq ik, ia cy (hh 1) 7 (upd C 5 (C 5 + 1))])) H3 := hP3
              replace hD3 : va_D (va_A _ sz) (shB cy qq bi si f ++ ([sO cy hh a kk dd b w ee qq ik, ia cy (hh 1) 7 (upd C 5 (C 5 + 1))])) := hD3
              replace hP3 := hP3.sub (ws' := [sO cy hh a kk dd b w ee qq ik, ia cy (hh 1) 7 (upd C 5 (C 5 + 1))] ++ (shB cy qq bi si f)) [9, 10, 0, 1, 2, 3, 4, 5, 6, 7, 8] rfl
              replace hD3 := hD3.sub (ws' := [sO cy hh a kk dd b w ee qq ik, ia cy (hh 1) 7 (upd C 5 (C 5 + 1))] ++ (shB cy qq bi si f)) [9, 10, 0, 1, 2, 3, 4, 5, 6, 7, 8] (by decide) rfl
              subst hr_56
              have hcd : cCopy bi si 1 x2 0 x4 x5 = 5 := by unfold cCopy; clear hx hb hml hown hr hlocks hw hsz hA hG hK hP3 hD3 hS3 hl2; grind
              have hq9 : ([sO cy hh a kk dd b w ee qq ik, ia cy (hh 1) 7 (upd C 5 (C 5 + 1))] ++ (shB cy qq bi si f)) = ([sO cy hh a kk dd b w ee qq ik, ia cy (hh 1) 7 (fnd C (cCopy bi si 1 x2 0 x4 x5))] ++ (shB cy qq bi si f)) := congrArg (fun z9 => [sO cy hh a kk dd b w ee qq ik, ia cy (hh 1) 7 z9] ++ (shB cy qq bi si f)) (show (upd C 5 (C 5 + 1)) = (fnd C (cCopy bi si 1 x2 0 x4 x5)) from fnd_f hcd (by decide))
              replace hP3 := (congrArg (fun z9 => va_P D vwCl z9 _) hq9).mp hP3
              replace hD3 := (congrArg (fun z9 => va_D _ z9) hq9).mp hD3
              clear hq9
              have hq9 : ([sO cy hh a kk dd b w ee qq ik, ia cy (hh 1) 7 (fnd C (cCopy bi si 1 x2 0 x4 x5))] ++ (shB cy qq bi si f)) = ([sO cy hh a kk dd b w ee qq ik, ia cy (hh 1) 7 (fnd C (cCopy bi si 1 x2 0 x4 x5))] ++ (shB cy qq bi si (if cCopy bi si 1 x2 0 x4 x5 = 7 then va_up f (bstN 0) (va_cpy (f (bstN 1)) (f (bstN 0)) (bstN x2) (bstN x4) (bstN x5)) else f))) := congrArg (fun z9 => [sO cy hh a kk dd b w ee qq ik, ia cy (hh 1) 7 (fnd C (cCopy bi si 1 x2 0 x4 x5))] ++ (shB cy qq bi si z9)) (show f = (if cCopy bi si 1 x2 0 x4 x5 = 7 then va_up f (bstN 0) (va_cpy (f (bstN 1)) (f (bstN 0)) (bstN x2) (bstN x4) (bstN x5)) else f) from (if_neg (fun z9 => absurd (hcd.symm.trans z9) (by decide))).symm)
              replace hP3 := (congrArg (fun z9 => va_P D vwCl z9 _) hq9).mp hP3
              replace hD3 := (congrArg (fun z9 => va_D _ z9) hq9).mp hD3
              clear hq9
              refine re_i () hx hb hr hlocks hP3 hD3 hS3 dX6_copy_59 ?_
              exact (ans_f hcd (by decide) rfl)
        · refine lv_iload_n hx hb dX6_copy_34 rfl (lv_at hl1 4 rfl) ?_
          refine ald_q hx hb hK hP2 2 3 rfl rfl rfl 1 rfl (by first | omega | assumption) (by decide) (rfl) dX6_copy_35 ?_
          refine lv_astore (lv' := [(7, .ref (qq 2)), (6, .ref (qq 2)), (0, .ref (hh 0)), (1, .int 1), (2, .int x2), (3, .int 1), (4, .int x4), (5, .int x5)]) hx hb dX6_copy_36 hl1 (by decide) rfl (fun ls2 hl2 => ?_)
          clear hl1 ls1
          refine lv_aload hx hb dX6_copy_38 (lv_at hl2 1 rfl) ?_
          refine va_get (D := D) (ci := 2) (v := .int (bi 1)) (C := RX2) (T := TX2) (N := 3) hx hb hw iX2 hown hK hP2 4 rfl rfl 1 (by decide) (hw _ kw_2_16) (fun _ h9 => h9) rfl dX6_copy_40 ?_
          refine lv_if_eq (tgt := 54) hx hb dX6_copy_43 (by decide) (fun c_43 => ?_) (fun c_43 => ?_)
          · replace hP2 : va_P D vwCl ([sO cy hh a kk dd b w ee qq ik, ia cy (hh 1) 7 C] ++ (shB cy qq bi si f)) H2 := hP2
            replace hD2 : va_D (va_A _ sz) ([sO cy hh a kk dd b w ee qq ik, ia cy (hh 1) 7 C] ++ (shB cy qq bi si f)) := hD2
            refine lv_aload_n hx hb dX6_copy_54 rfl (lv_at hl2 2 rfl) ?_
            refine lv_iconst (v := 5) hx hb dX6_copy_55 (by decide) ?_
            refine cV_i (wc := [sO cy hh a kk dd b w ee qq ik, ia cy (hh 1) 7 C]) (wr := shB cy qq bi si f) (rest := []) hx hb hml hown hw hG hK hP2 hD2 hS2 hA hl2 kc_X6_find kw_2_59 [.int 5] (c_X6_find l D cy G H2.size hh a kk dd b w ee qq ik C 5 (by first | omega | assumption)) [0, 1] [2, 3, 4, 5, 6, 7, 8, 9, 10] rfl rfl rfl rfl rfl 0 rfl rfl rfl rfl rfl (Nat.le_of_ble_eq_true rfl) ⟨Nat.le_of_ble_eq_true rfl, Nat.le_of_ble_eq_true rfl⟩ dX6_copy_56 ⟨Nat.le_of_ble_eq_true rfl, Nat.le_of_ble_eq_true rfl⟩ (fun r_56 u9 H3 locs3 hu9 hP3 hD3 hS3 => ?_)
            clear hP2 hD2 hS2 locs2 H2
            have hr_56 := hu9
            replace hP3 : va_P D vwCl (shB cy qq bi si f ++ ([sO cy hh a kk dd b w ee qq ik, ia cy (hh 1) 7 (upd C 5 (C 5 + 1))])) H3 := hP3
            replace hD3 : va_D (va_A _ sz) (shB cy qq bi si f ++ ([sO cy hh a kk dd b w ee qq ik, ia cy (hh 1) 7 (upd C 5 (C 5 + 1))])) := hD3
            replace hP3 := hP3.sub (ws' := [sO cy hh a kk dd b w ee qq ik, ia cy (hh 1) 7 (upd C 5 (C 5 + 1))] ++ (shB cy qq bi si f)) [9, 10, 0, 1, 2, 3, 4, 5, 6, 7, 8] rfl
            replace hD3 := hD3.sub (ws' := [sO cy hh a kk dd b w ee qq ik, ia cy (hh 1) 7 (upd C 5 (C 5 + 1))] ++ (shB cy qq bi si f)) [9, 10, 0, 1, 2, 3, 4, 5, 6, 7, 8] (by decide) rfl
            subst hr_56
            have hcd : cCopy bi si 1 x2 1 x4 x5 = 5 := by unfold cCopy; clear hx hb hml hown hr hlocks hw hsz hA hG hK hP3 hD3 hS3 hl2; grind
            have hq9 : ([sO cy hh a kk dd b w ee qq ik, ia cy (hh 1) 7 (upd C 5 (C 5 + 1))] ++ (shB cy qq bi si f)) = ([sO cy hh a kk dd b w ee qq ik, ia cy (hh 1) 7 (fnd C (cCopy bi si 1 x2 1 x4 x5))] ++ (shB cy qq bi si f)) := congrArg (fun z9 => [sO cy hh a kk dd b w ee qq ik, ia cy (hh 1) 7 z9] ++ (shB cy qq bi si f)) (show (upd C 5 (C 5 + 1)) = (fnd C (cCopy bi si 1 x2 1 x4 x5)) from fnd_f hcd (by decide))
            replace hP3 := (congrArg (fun z9 => va_P D vwCl z9 _) hq9).mp hP3
            replace hD3 := (congrArg (fun z9 => va_D _ z9) hq9).mp hD3
            clear hq9
            have hq9 : ([sO cy hh a kk dd b w ee qq ik, ia cy (hh 1) 7 (fnd C (cCopy bi si 1 x2 1 x4 x5))] ++ (shB cy qq bi si f)) = ([sO cy hh a kk dd b w ee qq ik, ia cy (hh 1) 7 (fnd C (cCopy bi si 1 x2 1 x4 x5))] ++ (shB cy qq bi si (if cCopy bi si 1 x2 1 x4 x5 = 7 then va_up f (bstN 1) (va_cpy (f (bstN 1)) (f (bstN 1)) (bstN x2) (bstN x4) (bstN x5)) else f))) := congrArg (fun z9 => [sO cy hh a kk dd b w ee qq ik, ia cy (hh 1) 7 (fnd C (cCopy bi si 1 x2 1 x4 x5))] ++ (shB cy qq bi si z9)) (show f = (if cCopy bi si 1 x2 1 x4 x5 = 7 then va_up f (bstN 1) (va_cpy (f (bstN 1)) (f (bstN 1)) (bstN x2) (bstN x4) (bstN x5)) else f) from (if_neg (fun z9 => absurd (hcd.symm.trans z9) (by decide))).symm)
            replace hP3 := (congrArg (fun z9 => va_P D vwCl z9 _) hq9).mp hP3
            replace hD3 := (congrArg (fun z9 => va_D _ z9) hq9).mp hD3
            clear hq9
            refine re_i () hx hb hr hlocks hP3 hD3 hS3 dX6_copy_59 ?_
            exact (ans_f hcd (by decide) rfl)
          · refine lv_aload hx hb dX6_copy_46 (lv_at hl2 0 rfl) ?_
            refine va_get (D := D) (ci := 2) (v := .int (bi 1)) (C := RX2) (T := TX2) (N := 3) hx hb hw iX2 hown hK hP2 4 rfl rfl 1 (by decide) (hw _ kw_2_16) (fun _ h9 => h9) rfl dX6_copy_48 ?_
            refine lv_if_ne (tgt := 60) hx hb dX6_copy_51 (by decide) (fun c_51 => ?_) (fun c_51 => ?_)
            · refine lv_aload hx hb dX6_copy_60 (lv_at hl2 1 rfl) ?_
              refine va_get (D := D) (ci := 2) (v := .int (bi 1)) (C := RX2) (T := TX2) (N := 3) hx hb hw iX2 hown hK hP2 4 rfl rfl 1 (by decide) (hw _ kw_2_16) (fun _ h9 => h9) rfl dX6_copy_62 ?_
              refine lv_aload hx hb dX6_copy_65 (lv_at hl2 0 rfl) ?_
              refine va_get (D := D) (ci := 2) (v := .int (bi 1)) (C := RX2) (T := TX2) (N := 3) hx hb hw iX2 hown hK hP2 4 rfl rfl 1 (by decide) (hw _ kw_2_16) (fun _ h9 => h9) rfl dX6_copy_67 ?_
              refine lv_icmp_eq (tgt := 79) hx hb dX6_copy_70 (by decide) (fun c_70 => ?_) (fun c_70 => ?_)
              · refine lv_aload hx hb dX6_copy_79 (lv_at hl2 1 rfl) ?_
                refine lv_iload_n hx hb dX6_copy_81 rfl (lv_at hl2 4 rfl) ?_
                refine lv_iload hx hb dX6_copy_82 (lv_at hl2 7 rfl) ?_
                refine rV_i (wc := [hO cy (qq 2) (qq 6) (bi 1) (si 1), la cy (qq 6) 40 (f 1)]) (rest := []) hx hb hml hown hw hG hK hP2 hS2 hA hl2 kc_X2_hasRow kw_4_12 [.int x2, .int x5] (c_X2_hasRow l D cy G H2.size (qq 2) (qq 6) (bi 1) (si 1) (f 1) x2 x5) [4, 8] rfl 0 rfl rfl rfl rfl rfl (Nat.le_of_ble_eq_true rfl) ⟨Nat.le_of_ble_eq_true rfl, Nat.le_of_ble_eq_true rfl⟩ dX6_copy_84 ⟨Nat.le_of_ble_eq_true rfl, Nat.le_of_ble_eq_true rfl⟩ (fun r_84 H3 locs3 hr_84 hP3 hS3 => ?_)
                have hD3 := hD2
                clear hP2 hD2 hS2 locs2 H2
                subst hr_84
                refine lb_eq (tgt := 102) hx hb dX6_copy_87 (by decide) (fun c_87 => ?_) (fun c_87 => ?_)
                · replace hP3 : va_P D vwCl ([sO cy hh a kk dd b w ee qq ik, ia cy (hh 1) 7 C] ++ (shB cy qq bi si f)) H3 := hP3
                  replace hD3 : va_D (va_A _ sz) ([sO cy hh a kk dd b w ee qq ik, ia cy (hh 1) 7 C] ++ (shB cy qq bi si f)) := hD3
                  refine lv_aload_n hx hb dX6_copy_102 rfl (lv_at hl2 2 rfl) ?_
                  refine lv_iconst (v := 0) hx hb dX6_copy_103 (by decide) ?_
                  refine cV_i (wc := [sO cy hh a kk dd b w ee qq ik, ia cy (hh 1) 7 C]) (wr := shB cy qq bi si f) (rest := []) hx hb hml hown hw hG hK hP3 hD3 hS3 hA hl2 kc_X6_find kw_2_59 [.int 0] (c_X6_find l D cy G H3.size hh a kk dd b w ee qq ik C 0 (by first | omega | assumption)) [0, 1] [2, 3, 4, 5, 6, 7, 8, 9, 10] rfl rfl rfl rfl rfl 0 rfl rfl rfl rfl rfl (Nat.le_of_ble_eq_true rfl) ⟨Nat.le_of_ble_eq_true rfl, Nat.le_of_ble_eq_true rfl⟩ dX6_copy_104 ⟨Nat.le_of_ble_eq_true rfl, Nat.le_of_ble_eq_true rfl⟩ (fun r_104 u9 H4 locs4 hu9 hP4 hD4 hS4 => ?_)
                  clear hP3 hD3 hS3 locs3 H3
                  have hr_104 := hu9
                  replace hP4 : va_P D vwCl (shB cy qq bi si f ++ ([sO cy hh a kk dd b w ee qq ik, ia cy (hh 1) 7 (upd C 0 (C 0 + 1))])) H4 := hP4
                  replace hD4 : va_D (va_A _ sz) (shB cy qq bi si f ++ ([sO cy hh a kk dd b w ee qq ik, ia cy (hh 1) 7 (upd C 0 (C 0 + 1))])) := hD4
                  replace hP4 := hP4.sub (ws' := [sO cy hh a kk dd b w ee qq ik, ia cy (hh 1) 7 (upd C 0 (C 0 + 1))] ++ (shB cy qq bi si f)) [9, 10, 0, 1, 2, 3, 4, 5, 6, 7, 8] rfl
                  replace hD4 := hD4.sub (ws' := [sO cy hh a kk dd b w ee qq ik, ia cy (hh 1) 7 (upd C 0 (C 0 + 1))] ++ (shB cy qq bi si f)) [9, 10, 0, 1, 2, 3, 4, 5, 6, 7, 8] (by decide) rfl
                  subst hr_104
                  have hcd : cCopy bi si 1 x2 1 x4 x5 = 0 := by unfold cCopy; clear hx hb hml hown hr hlocks hw hsz hA hG hK hP4 hD4 hS4 hl2; grind
                  have hq9 : ([sO cy hh a kk dd b w ee qq ik, ia cy (hh 1) 7 (upd C 0 (C 0 + 1))] ++ (shB cy qq bi si f)) = ([sO cy hh a kk dd b w ee qq ik, ia cy (hh 1) 7 (fnd C (cCopy bi si 1 x2 1 x4 x5))] ++ (shB cy qq bi si f)) := congrArg (fun z9 => [sO cy hh a kk dd b w ee qq ik, ia cy (hh 1) 7 z9] ++ (shB cy qq bi si f)) (show (upd C 0 (C 0 + 1)) = (fnd C (cCopy bi si 1 x2 1 x4 x5)) from fnd_f hcd (by decide))
                  replace hP4 := (congrArg (fun z9 => va_P D vwCl z9 _) hq9).mp hP4
                  replace hD4 := (congrArg (fun z9 => va_D _ z9) hq9).mp hD4
                  clear hq9
                  have hq9 : ([sO cy hh a kk dd b w ee qq ik, ia cy (hh 1) 7 (fnd C (cCopy bi si 1 x2 1 x4 x5))] ++ (shB cy qq bi si f)) = ([sO cy hh a kk dd b w ee qq ik, ia cy (hh 1) 7 (fnd C (cCopy bi si 1 x2 1 x4 x5))] ++ (shB cy qq bi si (if cCopy bi si 1 x2 1 x4 x5 = 7 then va_up f (bstN 1) (va_cpy (f (bstN 1)) (f (bstN 1)) (bstN x2) (bstN x4) (bstN x5)) else f))) := congrArg (fun z9 => [sO cy hh a kk dd b w ee qq ik, ia cy (hh 1) 7 (fnd C (cCopy bi si 1 x2 1 x4 x5))] ++ (shB cy qq bi si z9)) (show f = (if cCopy bi si 1 x2 1 x4 x5 = 7 then va_up f (bstN 1) (va_cpy (f (bstN 1)) (f (bstN 1)) (bstN x2) (bstN x4) (bstN x5)) else f) from (if_neg (fun z9 => absurd (hcd.symm.trans z9) (by decide))).symm)
                  replace hP4 := (congrArg (fun z9 => va_P D vwCl z9 _) hq9).mp hP4
                  replace hD4 := (congrArg (fun z9 => va_D _ z9) hq9).mp hD4
                  clear hq9
                  refine re_i () hx hb hr hlocks hP4 hD4 hS4 dX6_copy_107 ?_
                  exact (ans_f hcd (by decide) rfl)
                · refine lv_aload hx hb dX6_copy_90 (lv_at hl2 0 rfl) ?_
                  refine lv_iload hx hb dX6_copy_92 (lv_at hl2 6 rfl) ?_
                  refine lv_iload hx hb dX6_copy_94 (lv_at hl2 7 rfl) ?_
                  refine rV_i (wc := [hO cy (qq 2) (qq 6) (bi 1) (si 1), la cy (qq 6) 40 (f 1)]) (rest := []) hx hb hml hown hw hG hK hP3 hS3 hA hl2 kc_X2_hasRow kw_4_12 [.int x4, .int x5] (c_X2_hasRow l D cy G H3.size (qq 2) (qq 6) (bi 1) (si 1) (f 1) x4 x5) [4, 8] rfl 0 rfl rfl rfl rfl rfl (Nat.le_of_ble_eq_true rfl) ⟨Nat.le_of_ble_eq_true rfl, Nat.le_of_ble_eq_true rfl⟩ dX6_copy_96 ⟨Nat.le_of_ble_eq_true rfl, Nat.le_of_ble_eq_true rfl⟩ (fun r_96 H4 locs4 hr_96 hP4 hS4 => ?_)
                  have hD4 := hD3
                  clear hP3 hD3 hS3 locs3 H3
                  subst hr_96
                  refine lb_ne (tgt := 108) hx hb dX6_copy_99 (by decide) (fun c_99 => ?_) (fun c_99 => ?_)
                  · have h8 := c_87
                    rw [(hso 1 (by decide)).1] at h8
                    have h9 := c_99
                    rw [(hso 1 (by decide)).1] at h9
                    obtain ⟨a1, n1, hab, rfl, rfl⟩ := row_at (by omega) h8
                    obtain ⟨a2, n2, hab2, rfl, e4⟩ := row_at (by omega) h9
                    obtain rfl : n1 = n2 := (nI_eq (by omega) (by omega)).mp e4
                    have hba1 : bstN (nI a1) = a1 := bst_n (by omega)
                    have hba2 : bstN (nI a2) = a2 := bst_n (by omega)
                    have hbn : bstN (nI n1) = n1 := bst_n (by omega)
                    refine lv_aload hx hb dX6_copy_108 (lv_at hl2 1 rfl) ?_
                    refine va_get (D := D) (ci := 2) (v := .ref (qq 6)) (C := RX2) (T := TX2) (N := 3) hx hb hw iX2 hown hK hP4 4 rfl rfl 0 (by decide) (hw _ kw_2_14) (fun _ h9 => h9) rfl dX6_copy_110 ?_
                    refine lv_iload_n hx hb dX6_copy_113 rfl (lv_at hl2 4 rfl) ?_
                    refine lv_aload hx hb dX6_copy_114 (lv_at hl2 0 rfl) ?_
                    refine va_get (D := D) (ci := 2) (v := .ref (qq 6)) (C := RX2) (T := TX2) (N := 3) hx hb hw iX2 hown hK hP4 4 rfl rfl 0 (by decide) (hw _ kw_2_14) (fun _ h9 => h9) rfl dX6_copy_116 ?_
                    refine lv_iload hx hb dX6_copy_119 (lv_at hl2 6 rfl) ?_
                    refine lv_iload hx hb dX6_copy_121 (lv_at hl2 7 rfl) ?_
                    refine acpL (f := f 1) (g := f 1) (ws' := [sO cy hh a kk dd b w ee qq ik, ia cy (hh 1) 7 C, qsB cy qq, hO cy (qq 1) (qq 5) (bi 0) (si 0), hO cy (qq 2) (qq 6) (bi 1) (si 1), hO cy (qq 3) (qq 7) (bi 2) (si 2), hO cy (qq 4) (qq 8) (bi 3) (si 3), la cy (qq 5) 40 (f 0), la cy (qq 6) 40 (va_cpy (f 1) (f 1) a1 a2 n1), la cy (qq 7) 40 (f 2), la cy (qq 8) 40 (f 3)]) hx hb hml hl2 hw hown kw_4_16 kw_2_162 kw_2_161 kw_1_9 hK hP4 hD4 hS4 8 8 1 rfl rfl rfl a1 a2 n1 rfl rfl rfl (by omega) (by omega) (by omega) (by first | decide | omega) (by first | decide | omega) rfl (Nat.le_of_ble_eq_true rfl) (Nat.le_of_ble_eq_true rfl) dX6_copy_123 (fun H5 locs5 hP5 hD5 hS5 => ?_)
                    clear hP4 hD4 hS4 locs4 H4
                    replace hP5 : va_P D vwCl ([sO cy hh a kk dd b w ee qq ik, ia cy (hh 1) 7 C] ++ (shB cy qq bi si (va_up f 1 (va_cpy (f 1) (f 1) a1 a2 n1)))) H5 := hP5
                    replace hD5 : va_D (va_A _ sz) ([sO cy hh a kk dd b w ee qq ik, ia cy (hh 1) 7 C] ++ (shB cy qq bi si (va_up f 1 (va_cpy (f 1) (f 1) a1 a2 n1)))) := hD5
                    refine lv_iload hx hb dX6_copy_126 (lv_at hl2 7 rfl) ?_
                    have hcd : cCopy bi si 1 (nI a1) 1 (nI a2) (nI n1) = 7 := by unfold cCopy; clear hx hb hml hown hr hlocks hw hsz hA hG hK hP5 hD5 hS5 hl2; grind
                    have hq9 : ([sO cy hh a kk dd b w ee qq ik, ia cy (hh 1) 7 C] ++ (shB cy qq bi si (va_up f 1 (va_cpy (f 1) (f 1) a1 a2 n1)))) = ([sO cy hh a kk dd b w ee qq ik, ia cy (hh 1) 7 (fnd C (cCopy bi si 1 (nI a1) 1 (nI a2) (nI n1)))] ++ (shB cy qq bi si (va_up f 1 (va_cpy (f 1) (f 1) a1 a2 n1)))) := congrArg (fun z9 => [sO cy hh a kk dd b w ee qq ik, ia cy (hh 1) 7 z9] ++ (shB cy qq bi si (va_up f 1 (va_cpy (f 1) (f 1) a1 a2 n1)))) (show C = (fnd C (cCopy bi si 1 (nI a1) 1 (nI a2) (nI n1))) from fnd_o hcd)
                    replace hP5 := (congrArg (fun z9 => va_P D vwCl z9 _) hq9).mp hP5
                    replace hD5 := (congrArg (fun z9 => va_D _ z9) hq9).mp hD5
                    clear hq9
                    have hq9 : ([sO cy hh a kk dd b w ee qq ik, ia cy (hh 1) 7 (fnd C (cCopy bi si 1 (nI a1) 1 (nI a2) (nI n1)))] ++ (shB cy qq bi si (va_up f 1 (va_cpy (f 1) (f 1) a1 a2 n1)))) = ([sO cy hh a kk dd b w ee qq ik, ia cy (hh 1) 7 (fnd C (cCopy bi si 1 (nI a1) 1 (nI a2) (nI n1)))] ++ (shB cy qq bi si (if cCopy bi si 1 (nI a1) 1 (nI a2) (nI n1) = 7 then va_up f (bstN 1) (va_cpy (f (bstN 1)) (f (bstN 1)) (bstN (nI a1)) (bstN (nI a2)) (bstN (nI n1))) else f))) := congrArg (fun z9 => [sO cy hh a kk dd b w ee qq ik, ia cy (hh 1) 7 (fnd C (cCopy bi si 1 (nI a1) 1 (nI a2) (nI n1)))] ++ (shB cy qq bi si z9)) (show (va_up f 1 (va_cpy (f 1) (f 1) a1 a2 n1)) = (if cCopy bi si 1 (nI a1) 1 (nI a2) (nI n1) = 7 then va_up f (bstN 1) (va_cpy (f (bstN 1)) (f (bstN 1)) (bstN (nI a1)) (bstN (nI a2)) (bstN (nI n1))) else f) from by rw [if_pos hcd]; simp only [hba1, hba2, hbn, hb0, hb1, hb2, hb3])
                    replace hP5 := (congrArg (fun z9 => va_P D vwCl z9 _) hq9).mp hP5
                    replace hD5 := (congrArg (fun z9 => va_D _ z9) hq9).mp hD5
                    clear hq9
                    refine re_i () hx hb hr hlocks hP5 hD5 hS5 dX6_copy_128 ?_
                    exact (ans_o hcd (rfl))
                  · replace hP4 : va_P D vwCl ([sO cy hh a kk dd b w ee qq ik, ia cy (hh 1) 7 C] ++ (shB cy qq bi si f)) H4 := hP4
                    replace hD4 : va_D (va_A _ sz) ([sO cy hh a kk dd b w ee qq ik, ia cy (hh 1) 7 C] ++ (shB cy qq bi si f)) := hD4
                    refine lv_aload_n hx hb dX6_copy_102 rfl (lv_at hl2 2 rfl) ?_
                    refine lv_iconst (v := 0) hx hb dX6_copy_103 (by decide) ?_
                    refine cV_i (wc := [sO cy hh a kk dd b w ee qq ik, ia cy (hh 1) 7 C]) (wr := shB cy qq bi si f) (rest := []) hx hb hml hown hw hG hK hP4 hD4 hS4 hA hl2 kc_X6_find kw_2_59 [.int 0] (c_X6_find l D cy G H4.size hh a kk dd b w ee qq ik C 0 (by first | omega | assumption)) [0, 1] [2, 3, 4, 5, 6, 7, 8, 9, 10] rfl rfl rfl rfl rfl 0 rfl rfl rfl rfl rfl (Nat.le_of_ble_eq_true rfl) ⟨Nat.le_of_ble_eq_true rfl, Nat.le_of_ble_eq_true rfl⟩ dX6_copy_104 ⟨Nat.le_of_ble_eq_true rfl, Nat.le_of_ble_eq_true rfl⟩ (fun r_104 u9 H5 locs5 hu9 hP5 hD5 hS5 => ?_)
                    clear hP4 hD4 hS4 locs4 H4
                    have hr_104 := hu9
                    replace hP5 : va_P D vwCl (shB cy qq bi si f ++ ([sO cy hh a kk dd b w ee qq ik, ia cy (hh 1) 7 (upd C 0 (C 0 + 1))])) H5 := hP5
                    replace hD5 : va_D (va_A _ sz) (shB cy qq bi si f ++ ([sO cy hh a kk dd b w ee qq ik, ia cy (hh 1) 7 (upd C 0 (C 0 + 1))])) := hD5
                    replace hP5 := hP5.sub (ws' := [sO cy hh a kk dd b w ee qq ik, ia cy (hh 1) 7 (upd C 0 (C 0 + 1))] ++ (shB cy qq bi si f)) [9, 10, 0, 1, 2, 3, 4, 5, 6, 7, 8] rfl
                    replace hD5 := hD5.sub (ws' := [sO cy hh a kk dd b w ee qq ik, ia cy (hh 1) 7 (upd C 0 (C 0 + 1))] ++ (shB cy qq bi si f)) [9, 10, 0, 1, 2, 3, 4, 5, 6, 7, 8] (by decide) rfl
                    subst hr_104
                    have hcd : cCopy bi si 1 x2 1 x4 x5 = 0 := by unfold cCopy; clear hx hb hml hown hr hlocks hw hsz hA hG hK hP5 hD5 hS5 hl2; grind
                    have hq9 : ([sO cy hh a kk dd b w ee qq ik, ia cy (hh 1) 7 (upd C 0 (C 0 + 1))] ++ (shB cy qq bi si f)) = ([sO cy hh a kk dd b w ee qq ik, ia cy (hh 1) 7 (fnd C (cCopy bi si 1 x2 1 x4 x5))] ++ (shB cy qq bi si f)) := congrArg (fun z9 => [sO cy hh a kk dd b w ee qq ik, ia cy (hh 1) 7 z9] ++ (shB cy qq bi si f)) (show (upd C 0 (C 0 + 1)) = (fnd C (cCopy bi si 1 x2 1 x4 x5)) from fnd_f hcd (by decide))
                    replace hP5 := (congrArg (fun z9 => va_P D vwCl z9 _) hq9).mp hP5
                    replace hD5 := (congrArg (fun z9 => va_D _ z9) hq9).mp hD5
                    clear hq9
                    have hq9 : ([sO cy hh a kk dd b w ee qq ik, ia cy (hh 1) 7 (fnd C (cCopy bi si 1 x2 1 x4 x5))] ++ (shB cy qq bi si f)) = ([sO cy hh a kk dd b w ee qq ik, ia cy (hh 1) 7 (fnd C (cCopy bi si 1 x2 1 x4 x5))] ++ (shB cy qq bi si (if cCopy bi si 1 x2 1 x4 x5 = 7 then va_up f (bstN 1) (va_cpy (f (bstN 1)) (f (bstN 1)) (bstN x2) (bstN x4) (bstN x5)) else f))) := congrArg (fun z9 => [sO cy hh a kk dd b w ee qq ik, ia cy (hh 1) 7 (fnd C (cCopy bi si 1 x2 1 x4 x5))] ++ (shB cy qq bi si z9)) (show f = (if cCopy bi si 1 x2 1 x4 x5 = 7 then va_up f (bstN 1) (va_cpy (f (bstN 1)) (f (bstN 1)) (bstN x2) (bstN x4) (bstN x5)) else f) from (if_neg (fun z9 => absurd (hcd.symm.trans z9) (by decide))).symm)
                    replace hP5 := (congrArg (fun z9 => va_P D vwCl z9 _) hq9).mp hP5
                    replace hD5 := (congrArg (fun z9 => va_D _ z9) hq9).mp hD5
                    clear hq9
                    refine re_i () hx hb hr hlocks hP5 hD5 hS5 dX6_copy_107 ?_
                    exact (ans_f hcd (by decide) rfl)
              · replace hP2 : va_P D vwCl ([sO cy hh a kk dd b w ee qq ik, ia cy (hh 1) 7 C] ++ (shB cy qq bi si f)) H2 := hP2
                replace hD2 : va_D (va_A _ sz) ([sO cy hh a kk dd b w ee qq ik, ia cy (hh 1) 7 C] ++ (shB cy qq bi si f)) := hD2
                refine lv_aload_n hx hb dX6_copy_73 rfl (lv_at hl2 2 rfl) ?_
                refine lv_iconst (v := 2) hx hb dX6_copy_74 (by decide) ?_
                refine cV_i (wc := [sO cy hh a kk dd b w ee qq ik, ia cy (hh 1) 7 C]) (wr := shB cy qq bi si f) (rest := []) hx hb hml hown hw hG hK hP2 hD2 hS2 hA hl2 kc_X6_find kw_2_59 [.int 2] (c_X6_find l D cy G H2.size hh a kk dd b w ee qq ik C 2 (by first | omega | assumption)) [0, 1] [2, 3, 4, 5, 6, 7, 8, 9, 10] rfl rfl rfl rfl rfl 0 rfl rfl rfl rfl rfl (Nat.le_of_ble_eq_true rfl) ⟨Nat.le_of_ble_eq_true rfl, Nat.le_of_ble_eq_true rfl⟩ dX6_copy_75 ⟨Nat.le_of_ble_eq_true rfl, Nat.le_of_ble_eq_true rfl⟩ (fun r_75 u9 H3 locs3 hu9 hP3 hD3 hS3 => ?_)
                clear hP2 hD2 hS2 locs2 H2
                have hr_75 := hu9
                replace hP3 : va_P D vwCl (shB cy qq bi si f ++ ([sO cy hh a kk dd b w ee qq ik, ia cy (hh 1) 7 (upd C 2 (C 2 + 1))])) H3 := hP3
                replace hD3 : va_D (va_A _ sz) (shB cy qq bi si f ++ ([sO cy hh a kk dd b w ee qq ik, ia cy (hh 1) 7 (upd C 2 (C 2 + 1))])) := hD3
                replace hP3 := hP3.sub (ws' := [sO cy hh a kk dd b w ee qq ik, ia cy (hh 1) 7 (upd C 2 (C 2 + 1))] ++ (shB cy qq bi si f)) [9, 10, 0, 1, 2, 3, 4, 5, 6, 7, 8] rfl
                replace hD3 := hD3.sub (ws' := [sO cy hh a kk dd b w ee qq ik, ia cy (hh 1) 7 (upd C 2 (C 2 + 1))] ++ (shB cy qq bi si f)) [9, 10, 0, 1, 2, 3, 4, 5, 6, 7, 8] (by decide) rfl
                subst hr_75
                have hcd : cCopy bi si 1 x2 1 x4 x5 = 2 := by unfold cCopy; clear hx hb hml hown hr hlocks hw hsz hA hG hK hP3 hD3 hS3 hl2; grind
                have hq9 : ([sO cy hh a kk dd b w ee qq ik, ia cy (hh 1) 7 (upd C 2 (C 2 + 1))] ++ (shB cy qq bi si f)) = ([sO cy hh a kk dd b w ee qq ik, ia cy (hh 1) 7 (fnd C (cCopy bi si 1 x2 1 x4 x5))] ++ (shB cy qq bi si f)) := congrArg (fun z9 => [sO cy hh a kk dd b w ee qq ik, ia cy (hh 1) 7 z9] ++ (shB cy qq bi si f)) (show (upd C 2 (C 2 + 1)) = (fnd C (cCopy bi si 1 x2 1 x4 x5)) from fnd_f hcd (by decide))
                replace hP3 := (congrArg (fun z9 => va_P D vwCl z9 _) hq9).mp hP3
                replace hD3 := (congrArg (fun z9 => va_D _ z9) hq9).mp hD3
                clear hq9
                have hq9 : ([sO cy hh a kk dd b w ee qq ik, ia cy (hh 1) 7 (fnd C (cCopy bi si 1 x2 1 x4 x5))] ++ (shB cy qq bi si f)) = ([sO cy hh a kk dd b w ee qq ik, ia cy (hh 1) 7 (fnd C (cCopy bi si 1 x2 1 x4 x5))] ++ (shB cy qq bi si (if cCopy bi si 1 x2 1 x4 x5 = 7 then va_up f (bstN 1) (va_cpy (f (bstN 1)) (f (bstN 1)) (bstN x2) (bstN x4) (bstN x5)) else f))) := congrArg (fun z9 => [sO cy hh a kk dd b w ee qq ik, ia cy (hh 1) 7 (fnd C (cCopy bi si 1 x2 1 x4 x5))] ++ (shB cy qq bi si z9)) (show f = (if cCopy bi si 1 x2 1 x4 x5 = 7 then va_up f (bstN 1) (va_cpy (f (bstN 1)) (f (bstN 1)) (bstN x2) (bstN x4) (bstN x5)) else f) from (if_neg (fun z9 => absurd (hcd.symm.trans z9) (by decide))).symm)
                replace hP3 := (congrArg (fun z9 => va_P D vwCl z9 _) hq9).mp hP3
                replace hD3 := (congrArg (fun z9 => va_D _ z9) hq9).mp hD3
                clear hq9
                refine re_i () hx hb hr hlocks hP3 hD3 hS3 dX6_copy_78 ?_
                exact (ans_f hcd (by decide) rfl)
            · replace hP2 : va_P D vwCl ([sO cy hh a kk dd b w ee qq ik, ia cy (hh 1) 7 C] ++ (shB cy qq bi si f)) H2 := hP2
              replace hD2 : va_D (va_A _ sz) ([sO cy hh a kk dd b w ee qq ik, ia cy (hh 1) 7 C] ++ (shB cy qq bi si f)) := hD2
              refine lv_aload_n hx hb dX6_copy_54 rfl (lv_at hl2 2 rfl) ?_
              refine lv_iconst (v := 5) hx hb dX6_copy_55 (by decide) ?_
              refine cV_i (wc := [sO cy hh a kk dd b w ee qq ik, ia cy (hh 1) 7 C]) (wr := shB cy qq bi si f) (rest := []) hx hb hml hown hw hG hK hP2 hD2 hS2 hA hl2 kc_X6_find kw_2_59 [.int 5] (c_X6_find l D cy G H2.size hh a kk dd b w ee qq ik C 5 (by first | omega | assumption)) [0, 1] [2, 3, 4, 5, 6, 7, 8, 9, 10] rfl rfl rfl rfl rfl 0 rfl rfl rfl rfl rfl (Nat.le_of_ble_eq_true rfl) ⟨Nat.le_of_ble_eq_true rfl, Nat.le_of_ble_eq_true rfl⟩ dX6_copy_56 ⟨Nat.le_of_ble_eq_true rfl, Nat.le_of_ble_eq_true rfl⟩ (fun r_56 u9 H3 locs3 hu9 hP3 hD3 hS3 => ?_)
              clear hP2 hD2 hS2 locs2 H2
              have hr_56 := hu9
              replace hP3 : va_P D vwCl (shB cy qq bi si f ++ ([sO cy hh a kk dd b w ee qq ik, ia cy (hh 1) 7 (upd C 5 (C 5 + 1))])) H3 := hP3
              replace hD3 : va_D (va_A _ sz) (shB cy qq bi si f ++ ([sO cy hh a kk dd b w ee qq ik, ia cy (hh 1) 7 (upd C 5 (C 5 + 1))])) := hD3
              replace hP3 := hP3.sub (ws' := [sO cy hh a kk dd b w ee qq ik, ia cy (hh 1) 7 (upd C 5 (C 5 + 1))] ++ (shB cy qq bi si f)) [9, 10, 0, 1, 2, 3, 4, 5, 6, 7, 8] rfl
              replace hD3 := hD3.sub (ws' := [sO cy hh a kk dd b w ee qq ik, ia cy (hh 1) 7 (upd C 5 (C 5 + 1))] ++ (shB cy qq bi si f)) [9, 10, 0, 1, 2, 3, 4, 5, 6, 7, 8] (by decide) rfl
              subst hr_56
              have hcd : cCopy bi si 1 x2 1 x4 x5 = 5 := by unfold cCopy; clear hx hb hml hown hr hlocks hw hsz hA hG hK hP3 hD3 hS3 hl2; grind
              have hq9 : ([sO cy hh a kk dd b w ee qq ik, ia cy (hh 1) 7 (upd C 5 (C 5 + 1))] ++ (shB cy qq bi si f)) = ([sO cy hh a kk dd b w ee qq ik, ia cy (hh 1) 7 (fnd C (cCopy bi si 1 x2 1 x4 x5))] ++ (shB cy qq bi si f)) := congrArg (fun z9 => [sO cy hh a kk dd b w ee qq ik, ia cy (hh 1) 7 z9] ++ (shB cy qq bi si f)) (show (upd C 5 (C 5 + 1)) = (fnd C (cCopy bi si 1 x2 1 x4 x5)) from fnd_f hcd (by decide))
              replace hP3 := (congrArg (fun z9 => va_P D vwCl z9 _) hq9).mp hP3
              replace hD3 := (congrArg (fun z9 => va_D _ z9) hq9).mp hD3
              clear hq9
              have hq9 : ([sO cy hh a kk dd b w ee qq ik, ia cy (hh 1) 7 (fnd C (cCopy bi si 1 x2 1 x4 x5))] ++ (shB cy qq bi si f)) = ([sO cy hh a kk dd b w ee qq ik, ia cy (hh 1) 7 (fnd C (cCopy bi si 1 x2 1 x4 x5))] ++ (shB cy qq bi si (if cCopy bi si 1 x2 1 x4 x5 = 7 then va_up f (bstN 1) (va_cpy (f (bstN 1)) (f (bstN 1)) (bstN x2) (bstN x4) (bstN x5)) else f))) := congrArg (fun z9 => [sO cy hh a kk dd b w ee qq ik, ia cy (hh 1) 7 (fnd C (cCopy bi si 1 x2 1 x4 x5))] ++ (shB cy qq bi si z9)) (show f = (if cCopy bi si 1 x2 1 x4 x5 = 7 then va_up f (bstN 1) (va_cpy (f (bstN 1)) (f (bstN 1)) (bstN x2) (bstN x4) (bstN x5)) else f) from (if_neg (fun z9 => absurd (hcd.symm.trans z9) (by decide))).symm)
              replace hP3 := (congrArg (fun z9 => va_P D vwCl z9 _) hq9).mp hP3
              replace hD3 := (congrArg (fun z9 => va_D _ z9) hq9).mp hD3
              clear hq9
              refine re_i () hx hb hr hlocks hP3 hD3 hS3 dX6_copy_59 ?_
              exact (ans_f hcd (by decide) rfl)
        · refine lv_iload_n hx hb dX6_copy_34 rfl (lv_at hl1 4 rfl) ?_
          refine ald_q hx hb hK hP2 2 3 rfl rfl rfl 2 rfl (by first | omega | assumption) (by decide) (rfl) dX6_copy_35 ?_
          refine lv_astore (lv' := [(7, .ref (qq 3)), (6, .ref (qq 2)), (0, .ref (hh 0)), (1, .int 1), (2, .int x2), (3, .int 2), (4, .int x4), (5, .int x5)]) hx hb dX6_copy_36 hl1 (by decide) rfl (fun ls2 hl2 => ?_)
          clear hl1 ls1
          refine lv_aload hx hb dX6_copy_38 (lv_at hl2 1 rfl) ?_
          refine va_get (D := D) (ci := 2) (v := .int (bi 1)) (C := RX2) (T := TX2) (N := 3) hx hb hw iX2 hown hK hP2 4 rfl rfl 1 (by decide) (hw _ kw_2_16) (fun _ h9 => h9) rfl dX6_copy_40 ?_
          refine lv_if_eq (tgt := 54) hx hb dX6_copy_43 (by decide) (fun c_43 => ?_) (fun c_43 => ?_)
          · replace hP2 : va_P D vwCl ([sO cy hh a kk dd b w ee qq ik, ia cy (hh 1) 7 C] ++ (shB cy qq bi si f)) H2 := hP2
            replace hD2 : va_D (va_A _ sz) ([sO cy hh a kk dd b w ee qq ik, ia cy (hh 1) 7 C] ++ (shB cy qq bi si f)) := hD2
            refine lv_aload_n hx hb dX6_copy_54 rfl (lv_at hl2 2 rfl) ?_
            refine lv_iconst (v := 5) hx hb dX6_copy_55 (by decide) ?_
            refine cV_i (wc := [sO cy hh a kk dd b w ee qq ik, ia cy (hh 1) 7 C]) (wr := shB cy qq bi si f) (rest := []) hx hb hml hown hw hG hK hP2 hD2 hS2 hA hl2 kc_X6_find kw_2_59 [.int 5] (c_X6_find l D cy G H2.size hh a kk dd b w ee qq ik C 5 (by first | omega | assumption)) [0, 1] [2, 3, 4, 5, 6, 7, 8, 9, 10] rfl rfl rfl rfl rfl 0 rfl rfl rfl rfl rfl (Nat.le_of_ble_eq_true rfl) ⟨Nat.le_of_ble_eq_true rfl, Nat.le_of_ble_eq_true rfl⟩ dX6_copy_56 ⟨Nat.le_of_ble_eq_true rfl, Nat.le_of_ble_eq_true rfl⟩ (fun r_56 u9 H3 locs3 hu9 hP3 hD3 hS3 => ?_)
            clear hP2 hD2 hS2 locs2 H2
            have hr_56 := hu9
            replace hP3 : va_P D vwCl (shB cy qq bi si f ++ ([sO cy hh a kk dd b w ee qq ik, ia cy (hh 1) 7 (upd C 5 (C 5 + 1))])) H3 := hP3
            replace hD3 : va_D (va_A _ sz) (shB cy qq bi si f ++ ([sO cy hh a kk dd b w ee qq ik, ia cy (hh 1) 7 (upd C 5 (C 5 + 1))])) := hD3
            replace hP3 := hP3.sub (ws' := [sO cy hh a kk dd b w ee qq ik, ia cy (hh 1) 7 (upd C 5 (C 5 + 1))] ++ (shB cy qq bi si f)) [9, 10, 0, 1, 2, 3, 4, 5, 6, 7, 8] rfl
            replace hD3 := hD3.sub (ws' := [sO cy hh a kk dd b w ee qq ik, ia cy (hh 1) 7 (upd C 5 (C 5 + 1))] ++ (shB cy qq bi si f)) [9, 10, 0, 1, 2, 3, 4, 5, 6, 7, 8] (by decide) rfl
            subst hr_56
            have hcd : cCopy bi si 1 x2 2 x4 x5 = 5 := by unfold cCopy; clear hx hb hml hown hr hlocks hw hsz hA hG hK hP3 hD3 hS3 hl2; grind
            have hq9 : ([sO cy hh a kk dd b w ee qq ik, ia cy (hh 1) 7 (upd C 5 (C 5 + 1))] ++ (shB cy qq bi si f)) = ([sO cy hh a kk dd b w ee qq ik, ia cy (hh 1) 7 (fnd C (cCopy bi si 1 x2 2 x4 x5))] ++ (shB cy qq bi si f)) := congrArg (fun z9 => [sO cy hh a kk dd b w ee qq ik, ia cy (hh 1) 7 z9] ++ (shB cy qq bi si f)) (show (upd C 5 (C 5 + 1)) = (fnd C (cCopy bi si 1 x2 2 x4 x5)) from fnd_f hcd (by decide))
            replace hP3 := (congrArg (fun z9 => va_P D vwCl z9 _) hq9).mp hP3
            replace hD3 := (congrArg (fun z9 => va_D _ z9) hq9).mp hD3
            clear hq9
            have hq9 : ([sO cy hh a kk dd b w ee qq ik, ia cy (hh 1) 7 (fnd C (cCopy bi si 1 x2 2 x4 x5))] ++ (shB cy qq bi si f)) = ([sO cy hh a kk dd b w ee qq ik, ia cy (hh 1) 7 (fnd C (cCopy bi si 1 x2 2 x4 x5))] ++ (shB cy qq bi si (if cCopy bi si 1 x2 2 x4 x5 = 7 then va_up f (bstN 2) (va_cpy (f (bstN 1)) (f (bstN 2)) (bstN x2) (bstN x4) (bstN x5)) else f))) := congrArg (fun z9 => [sO cy hh a kk dd b w ee qq ik, ia cy (hh 1) 7 (fnd C (cCopy bi si 1 x2 2 x4 x5))] ++ (shB cy qq bi si z9)) (show f = (if cCopy bi si 1 x2 2 x4 x5 = 7 then va_up f (bstN 2) (va_cpy (f (bstN 1)) (f (bstN 2)) (bstN x2) (bstN x4) (bstN x5)) else f) from (if_neg (fun z9 => absurd (hcd.symm.trans z9) (by decide))).symm)
            replace hP3 := (congrArg (fun z9 => va_P D vwCl z9 _) hq9).mp hP3
            replace hD3 := (congrArg (fun z9 => va_D _ z9) hq9).mp hD3
            clear hq9
            refine re_i () hx hb hr hlocks hP3 hD3 hS3 dX6_copy_59 ?_
            exact (ans_f hcd (by decide) rfl)
          · refine lv_aload hx hb dX6_copy_46 (lv_at hl2 0 rfl) ?_
            refine va_get (D := D) (ci := 2) (v := .int (bi 2)) (C := RX2) (T := TX2) (N := 3) hx hb hw iX2 hown hK hP2 5 rfl rfl 1 (by decide) (hw _ kw_2_16) (fun _ h9 => h9) rfl dX6_copy_48 ?_
            refine lv_if_ne (tgt := 60) hx hb dX6_copy_51 (by decide) (fun c_51 => ?_) (fun c_51 => ?_)
            · refine lv_aload hx hb dX6_copy_60 (lv_at hl2 1 rfl) ?_
              refine va_get (D := D) (ci := 2) (v := .int (bi 1)) (C := RX2) (T := TX2) (N := 3) hx hb hw iX2 hown hK hP2 4 rfl rfl 1 (by decide) (hw _ kw_2_16) (fun _ h9 => h9) rfl dX6_copy_62 ?_
              refine lv_aload hx hb dX6_copy_65 (lv_at hl2 0 rfl) ?_
              refine va_get (D := D) (ci := 2) (v := .int (bi 2)) (C := RX2) (T := TX2) (N := 3) hx hb hw iX2 hown hK hP2 5 rfl rfl 1 (by decide) (hw _ kw_2_16) (fun _ h9 => h9) rfl dX6_copy_67 ?_
              refine lv_icmp_eq (tgt := 79) hx hb dX6_copy_70 (by decide) (fun c_70 => ?_) (fun c_70 => ?_)
              · refine lv_aload hx hb dX6_copy_79 (lv_at hl2 1 rfl) ?_
                refine lv_iload_n hx hb dX6_copy_81 rfl (lv_at hl2 4 rfl) ?_
                refine lv_iload hx hb dX6_copy_82 (lv_at hl2 7 rfl) ?_
                refine rV_i (wc := [hO cy (qq 2) (qq 6) (bi 1) (si 1), la cy (qq 6) 40 (f 1)]) (rest := []) hx hb hml hown hw hG hK hP2 hS2 hA hl2 kc_X2_hasRow kw_4_12 [.int x2, .int x5] (c_X2_hasRow l D cy G H2.size (qq 2) (qq 6) (bi 1) (si 1) (f 1) x2 x5) [4, 8] rfl 0 rfl rfl rfl rfl rfl (Nat.le_of_ble_eq_true rfl) ⟨Nat.le_of_ble_eq_true rfl, Nat.le_of_ble_eq_true rfl⟩ dX6_copy_84 ⟨Nat.le_of_ble_eq_true rfl, Nat.le_of_ble_eq_true rfl⟩ (fun r_84 H3 locs3 hr_84 hP3 hS3 => ?_)
                have hD3 := hD2
                clear hP2 hD2 hS2 locs2 H2
                subst hr_84
                refine lb_eq (tgt := 102) hx hb dX6_copy_87 (by decide) (fun c_87 => ?_) (fun c_87 => ?_)
                · replace hP3 : va_P D vwCl ([sO cy hh a kk dd b w ee qq ik, ia cy (hh 1) 7 C] ++ (shB cy qq bi si f)) H3 := hP3
                  replace hD3 : va_D (va_A _ sz) ([sO cy hh a kk dd b w ee qq ik, ia cy (hh 1) 7 C] ++ (shB cy qq bi si f)) := hD3
                  refine lv_aload_n hx hb dX6_copy_102 rfl (lv_at hl2 2 rfl) ?_
                  refine lv_iconst (v := 0) hx hb dX6_copy_103 (by decide) ?_
                  refine cV_i (wc := [sO cy hh a kk dd b w ee qq ik, ia cy (hh 1) 7 C]) (wr := shB cy qq bi si f) (rest := []) hx hb hml hown hw hG hK hP3 hD3 hS3 hA hl2 kc_X6_find kw_2_59 [.int 0] (c_X6_find l D cy G H3.size hh a kk dd b w ee qq ik C 0 (by first | omega | assumption)) [0, 1] [2, 3, 4, 5, 6, 7, 8, 9, 10] rfl rfl rfl rfl rfl 0 rfl rfl rfl rfl rfl (Nat.le_of_ble_eq_true rfl) ⟨Nat.le_of_ble_eq_true rfl, Nat.le_of_ble_eq_true rfl⟩ dX6_copy_104 ⟨Nat.le_of_ble_eq_true rfl, Nat.le_of_ble_eq_true rfl⟩ (fun r_104 u9 H4 locs4 hu9 hP4 hD4 hS4 => ?_)
                  clear hP3 hD3 hS3 locs3 H3
                  have hr_104 := hu9
                  replace hP4 : va_P D vwCl (shB cy qq bi si f ++ ([sO cy hh a kk dd b w ee qq ik, ia cy (hh 1) 7 (upd C 0 (C 0 + 1))])) H4 := hP4
                  replace hD4 : va_D (va_A _ sz) (shB cy qq bi si f ++ ([sO cy hh a kk dd b w ee qq ik, ia cy (hh 1) 7 (upd C 0 (C 0 + 1))])) := hD4
                  replace hP4 := hP4.sub (ws' := [sO cy hh a kk dd b w ee qq ik, ia cy (hh 1) 7 (upd C 0 (C 0 + 1))] ++ (shB cy qq bi si f)) [9, 10, 0, 1, 2, 3, 4, 5, 6, 7, 8] rfl
                  replace hD4 := hD4.sub (ws' := [sO cy hh a kk dd b w ee qq ik, ia cy (hh 1) 7 (upd C 0 (C 0 + 1))] ++ (shB cy qq bi si f)) [9, 10, 0, 1, 2, 3, 4, 5, 6, 7, 8] (by decide) rfl
                  subst hr_104
                  have hcd : cCopy bi si 1 x2 2 x4 x5 = 0 := by unfold cCopy; clear hx hb hml hown hr hlocks hw hsz hA hG hK hP4 hD4 hS4 hl2; grind
                  have hq9 : ([sO cy hh a kk dd b w ee qq ik, ia cy (hh 1) 7 (upd C 0 (C 0 + 1))] ++ (shB cy qq bi si f)) = ([sO cy hh a kk dd b w ee qq ik, ia cy (hh 1) 7 (fnd C (cCopy bi si 1 x2 2 x4 x5))] ++ (shB cy qq bi si f)) := congrArg (fun z9 => [sO cy hh a kk dd b w ee qq ik, ia cy (hh 1) 7 z9] ++ (shB cy qq bi si f)) (show (upd C 0 (C 0 + 1)) = (fnd C (cCopy bi si 1 x2 2 x4 x5)) from fnd_f hcd (by decide))
                  replace hP4 := (congrArg (fun z9 => va_P D vwCl z9 _) hq9).mp hP4
                  replace hD4 := (congrArg (fun z9 => va_D _ z9) hq9).mp hD4
                  clear hq9
                  have hq9 : ([sO cy hh a kk dd b w ee qq ik, ia cy (hh 1) 7 (fnd C (cCopy bi si 1 x2 2 x4 x5))] ++ (shB cy qq bi si f)) = ([sO cy hh a kk dd b w ee qq ik, ia cy (hh 1) 7 (fnd C (cCopy bi si 1 x2 2 x4 x5))] ++ (shB cy qq bi si (if cCopy bi si 1 x2 2 x4 x5 = 7 then va_up f (bstN 2) (va_cpy (f (bstN 1)) (f (bstN 2)) (bstN x2) (bstN x4) (bstN x5)) else f))) := congrArg (fun z9 => [sO cy hh a kk dd b w ee qq ik, ia cy (hh 1) 7 (fnd C (cCopy bi si 1 x2 2 x4 x5))] ++ (shB cy qq bi si z9)) (show f = (if cCopy bi si 1 x2 2 x4 x5 = 7 then va_up f (bstN 2) (va_cpy (f (bstN 1)) (f (bstN 2)) (bstN x2) (bstN x4) (bstN x5)) else f) from (if_neg (fun z9 => absurd (hcd.symm.trans z9) (by decide))).symm)
                  replace hP4 := (congrArg (fun z9 => va_P D vwCl z9 _) hq9).mp hP4
                  replace hD4 := (congrArg (fun z9 => va_D _ z9) hq9).mp hD4
                  clear hq9
                  refine re_i () hx hb hr hlocks hP4 hD4 hS4 dX6_copy_107 ?_
                  exact (ans_f hcd (by decide) rfl)
                · refine lv_aload hx hb dX6_copy_90 (lv_at hl2 0 rfl) ?_
                  refine lv_iload hx hb dX6_copy_92 (lv_at hl2 6 rfl) ?_
                  refine lv_iload hx hb dX6_copy_94 (lv_at hl2 7 rfl) ?_
                  refine rV_i (wc := [hO cy (qq 3) (qq 7) (bi 2) (si 2), la cy (qq 7) 40 (f 2)]) (rest := []) hx hb hml hown hw hG hK hP3 hS3 hA hl2 kc_X2_hasRow kw_4_12 [.int x4, .int x5] (c_X2_hasRow l D cy G H3.size (qq 3) (qq 7) (bi 2) (si 2) (f 2) x4 x5) [5, 9] rfl 0 rfl rfl rfl rfl rfl (Nat.le_of_ble_eq_true rfl) ⟨Nat.le_of_ble_eq_true rfl, Nat.le_of_ble_eq_true rfl⟩ dX6_copy_96 ⟨Nat.le_of_ble_eq_true rfl, Nat.le_of_ble_eq_true rfl⟩ (fun r_96 H4 locs4 hr_96 hP4 hS4 => ?_)
                  have hD4 := hD3
                  clear hP3 hD3 hS3 locs3 H3
                  subst hr_96
                  refine lb_ne (tgt := 108) hx hb dX6_copy_99 (by decide) (fun c_99 => ?_) (fun c_99 => ?_)
                  · have h8 := c_87
                    rw [(hso 1 (by decide)).1] at h8
                    have h9 := c_99
                    rw [(hso 2 (by decide)).1] at h9
                    obtain ⟨a1, n1, hab, rfl, rfl⟩ := row_at (by omega) h8
                    obtain ⟨a2, n2, hab2, rfl, e4⟩ := row_at (by omega) h9
                    obtain rfl : n1 = n2 := (nI_eq (by omega) (by omega)).mp e4
                    have hba1 : bstN (nI a1) = a1 := bst_n (by omega)
                    have hba2 : bstN (nI a2) = a2 := bst_n (by omega)
                    have hbn : bstN (nI n1) = n1 := bst_n (by omega)
                    refine lv_aload hx hb dX6_copy_108 (lv_at hl2 1 rfl) ?_
                    refine va_get (D := D) (ci := 2) (v := .ref (qq 6)) (C := RX2) (T := TX2) (N := 3) hx hb hw iX2 hown hK hP4 4 rfl rfl 0 (by decide) (hw _ kw_2_14) (fun _ h9 => h9) rfl dX6_copy_110 ?_
                    refine lv_iload_n hx hb dX6_copy_113 rfl (lv_at hl2 4 rfl) ?_
                    refine lv_aload hx hb dX6_copy_114 (lv_at hl2 0 rfl) ?_
                    refine va_get (D := D) (ci := 2) (v := .ref (qq 7)) (C := RX2) (T := TX2) (N := 3) hx hb hw iX2 hown hK hP4 5 rfl rfl 0 (by decide) (hw _ kw_2_14) (fun _ h9 => h9) rfl dX6_copy_116 ?_
                    refine lv_iload hx hb dX6_copy_119 (lv_at hl2 6 rfl) ?_
                    refine lv_iload hx hb dX6_copy_121 (lv_at hl2 7 rfl) ?_
                    refine acpL (f := f 1) (g := f 2) (ws' := [sO cy hh a kk dd b w ee qq ik, ia cy (hh 1) 7 C, qsB cy qq, hO cy (qq 1) (qq 5) (bi 0) (si 0), hO cy (qq 2) (qq 6) (bi 1) (si 1), hO cy (qq 3) (qq 7) (bi 2) (si 2), hO cy (qq 4) (qq 8) (bi 3) (si 3), la cy (qq 5) 40 (f 0), la cy (qq 6) 40 (f 1), la cy (qq 7) 40 (va_cpy (f 1) (f 2) a1 a2 n1), la cy (qq 8) 40 (f 3)]) hx hb hml hl2 hw hown kw_4_16 kw_2_162 kw_2_161 kw_1_9 hK hP4 hD4 hS4 8 9 1 rfl rfl rfl a1 a2 n1 rfl rfl rfl (by omega) (by omega) (by omega) (by first | decide | omega) (by first | decide | omega) rfl (Nat.le_of_ble_eq_true rfl) (Nat.le_of_ble_eq_true rfl) dX6_copy_123 (fun H5 locs5 hP5 hD5 hS5 => ?_)
                    clear hP4 hD4 hS4 locs4 H4
                    replace hP5 : va_P D vwCl ([sO cy hh a kk dd b w ee qq ik, ia cy (hh 1) 7 C] ++ (shB cy qq bi si (va_up f 2 (va_cpy (f 1) (f 2) a1 a2 n1)))) H5 := hP5
                    replace hD5 : va_D (va_A _ sz) ([sO cy hh a kk dd b w ee qq ik, ia cy (hh 1) 7 C] ++ (shB cy qq bi si (va_up f 2 (va_cpy (f 1) (f 2) a1 a2 n1)))) := hD5
                    refine lv_iload hx hb dX6_copy_126 (lv_at hl2 7 rfl) ?_
                    have hcd : cCopy bi si 1 (nI a1) 2 (nI a2) (nI n1) = 7 := by unfold cCopy; clear hx hb hml hown hr hlocks hw hsz hA hG hK hP5 hD5 hS5 hl2; grind
                    have hq9 : ([sO cy hh a kk dd b w ee qq ik, ia cy (hh 1) 7 C] ++ (shB cy qq bi si (va_up f 2 (va_cpy (f 1) (f 2) a1 a2 n1)))) = ([sO cy hh a kk dd b w ee qq ik, ia cy (hh 1) 7 (fnd C (cCopy bi si 1 (nI a1) 2 (nI a2) (nI n1)))] ++ (shB cy qq bi si (va_up f 2 (va_cpy (f 1) (f 2) a1 a2 n1)))) := congrArg (fun z9 => [sO cy hh a kk dd b w ee qq ik, ia cy (hh 1) 7 z9] ++ (shB cy qq bi si (va_up f 2 (va_cpy (f 1) (f 2) a1 a2 n1)))) (show C = (fnd C (cCopy bi si 1 (nI a1) 2 (nI a2) (nI n1))) from fnd_o hcd)
                    replace hP5 := (congrArg (fun z9 => va_P D vwCl z9 _) hq9).mp hP5
                    replace hD5 := (congrArg (fun z9 => va_D _ z9) hq9).mp hD5
                    clear hq9
                    have hq9 : ([sO cy hh a kk dd b w ee qq ik, ia cy (hh 1) 7 (fnd C (cCopy bi si 1 (nI a1) 2 (nI a2) (nI n1)))] ++ (shB cy qq bi si (va_up f 2 (va_cpy (f 1) (f 2) a1 a2 n1)))) = ([sO cy hh a kk dd b w ee qq ik, ia cy (hh 1) 7 (fnd C (cCopy bi si 1 (nI a1) 2 (nI a2) (nI n1)))] ++ (shB cy qq bi si (if cCopy bi si 1 (nI a1) 2 (nI a2) (nI n1) = 7 then va_up f (bstN 2) (va_cpy (f (bstN 1)) (f (bstN 2)) (bstN (nI a1)) (bstN (nI a2)) (bstN (nI n1))) else f))) := congrArg (fun z9 => [sO cy hh a kk dd b w ee qq ik, ia cy (hh 1) 7 (fnd C (cCopy bi si 1 (nI a1) 2 (nI a2) (nI n1)))] ++ (shB cy qq bi si z9)) (show (va_up f 2 (va_cpy (f 1) (f 2) a1 a2 n1)) = (if cCopy bi si 1 (nI a1) 2 (nI a2) (nI n1) = 7 then va_up f (bstN 2) (va_cpy (f (bstN 1)) (f (bstN 2)) (bstN (nI a1)) (bstN (nI a2)) (bstN (nI n1))) else f) from by rw [if_pos hcd]; simp only [hba1, hba2, hbn, hb0, hb1, hb2, hb3])
                    replace hP5 := (congrArg (fun z9 => va_P D vwCl z9 _) hq9).mp hP5
                    replace hD5 := (congrArg (fun z9 => va_D _ z9) hq9).mp hD5
                    clear hq9
                    refine re_i () hx hb hr hlocks hP5 hD5 hS5 dX6_copy_128 ?_
                    exact (ans_o hcd (rfl))
                  · replace hP4 : va_P D vwCl ([sO cy hh a kk dd b w ee qq ik, ia cy (hh 1) 7 C] ++ (shB cy qq bi si f)) H4 := hP4
                    replace hD4 : va_D (va_A _ sz) ([sO cy hh a kk dd b w ee qq ik, ia cy (hh 1) 7 C] ++ (shB cy qq bi si f)) := hD4
                    refine lv_aload_n hx hb dX6_copy_102 rfl (lv_at hl2 2 rfl) ?_
                    refine lv_iconst (v := 0) hx hb dX6_copy_103 (by decide) ?_
                    refine cV_i (wc := [sO cy hh a kk dd b w ee qq ik, ia cy (hh 1) 7 C]) (wr := shB cy qq bi si f) (rest := []) hx hb hml hown hw hG hK hP4 hD4 hS4 hA hl2 kc_X6_find kw_2_59 [.int 0] (c_X6_find l D cy G H4.size hh a kk dd b w ee qq ik C 0 (by first | omega | assumption)) [0, 1] [2, 3, 4, 5, 6, 7, 8, 9, 10] rfl rfl rfl rfl rfl 0 rfl rfl rfl rfl rfl (Nat.le_of_ble_eq_true rfl) ⟨Nat.le_of_ble_eq_true rfl, Nat.le_of_ble_eq_true rfl⟩ dX6_copy_104 ⟨Nat.le_of_ble_eq_true rfl, Nat.le_of_ble_eq_true rfl⟩ (fun r_104 u9 H5 locs5 hu9 hP5 hD5 hS5 => ?_)
                    clear hP4 hD4 hS4 locs4 H4
                    have hr_104 := hu9
                    replace hP5 : va_P D vwCl (shB cy qq bi si f ++ ([sO cy hh a kk dd b w ee qq ik, ia cy (hh 1) 7 (upd C 0 (C 0 + 1))])) H5 := hP5
                    replace hD5 : va_D (va_A _ sz) (shB cy qq bi si f ++ ([sO cy hh a kk dd b w ee qq ik, ia cy (hh 1) 7 (upd C 0 (C 0 + 1))])) := hD5
                    replace hP5 := hP5.sub (ws' := [sO cy hh a kk dd b w ee qq ik, ia cy (hh 1) 7 (upd C 0 (C 0 + 1))] ++ (shB cy qq bi si f)) [9, 10, 0, 1, 2, 3, 4, 5, 6, 7, 8] rfl
                    replace hD5 := hD5.sub (ws' := [sO cy hh a kk dd b w ee qq ik, ia cy (hh 1) 7 (upd C 0 (C 0 + 1))] ++ (shB cy qq bi si f)) [9, 10, 0, 1, 2, 3, 4, 5, 6, 7, 8] (by decide) rfl
                    subst hr_104
                    have hcd : cCopy bi si 1 x2 2 x4 x5 = 0 := by unfold cCopy; clear hx hb hml hown hr hlocks hw hsz hA hG hK hP5 hD5 hS5 hl2; grind
                    have hq9 : ([sO cy hh a kk dd b w ee qq ik, ia cy (hh 1) 7 (upd C 0 (C 0 + 1))] ++ (shB cy qq bi si f)) = ([sO cy hh a kk dd b w ee qq ik, ia cy (hh 1) 7 (fnd C (cCopy bi si 1 x2 2 x4 x5))] ++ (shB cy qq bi si f)) := congrArg (fun z9 => [sO cy hh a kk dd b w ee qq ik, ia cy (hh 1) 7 z9] ++ (shB cy qq bi si f)) (show (upd C 0 (C 0 + 1)) = (fnd C (cCopy bi si 1 x2 2 x4 x5)) from fnd_f hcd (by decide))
                    replace hP5 := (congrArg (fun z9 => va_P D vwCl z9 _) hq9).mp hP5
                    replace hD5 := (congrArg (fun z9 => va_D _ z9) hq9).mp hD5
                    clear hq9
                    have hq9 : ([sO cy hh a kk dd b w ee qq ik, ia cy (hh 1) 7 (fnd C (cCopy bi si 1 x2 2 x4 x5))] ++ (shB cy qq bi si f)) = ([sO cy hh a kk dd b w ee qq ik, ia cy (hh 1) 7 (fnd C (cCopy bi si 1 x2 2 x4 x5))] ++ (shB cy qq bi si (if cCopy bi si 1 x2 2 x4 x5 = 7 then va_up f (bstN 2) (va_cpy (f (bstN 1)) (f (bstN 2)) (bstN x2) (bstN x4) (bstN x5)) else f))) := congrArg (fun z9 => [sO cy hh a kk dd b w ee qq ik, ia cy (hh 1) 7 (fnd C (cCopy bi si 1 x2 2 x4 x5))] ++ (shB cy qq bi si z9)) (show f = (if cCopy bi si 1 x2 2 x4 x5 = 7 then va_up f (bstN 2) (va_cpy (f (bstN 1)) (f (bstN 2)) (bstN x2) (bstN x4) (bstN x5)) else f) from (if_neg (fun z9 => absurd (hcd.symm.trans z9) (by decide))).symm)
                    replace hP5 := (congrArg (fun z9 => va_P D vwCl z9 _) hq9).mp hP5
                    replace hD5 := (congrArg (fun z9 => va_D _ z9) hq9).mp hD5
                    clear hq9
                    refine re_i () hx hb hr hlocks hP5 hD5 hS5 dX6_copy_107 ?_
                    exact (ans_f hcd (by decide) rfl)
              · replace hP2 : va_P D vwCl ([sO cy hh a kk dd b w ee qq ik, ia cy (hh 1) 7 C] ++ (shB cy qq bi si f)) H2 := hP2
                replace hD2 : va_D (va_A _ sz) ([sO cy hh a kk dd b w ee qq ik, ia cy (hh 1) 7 C] ++ (shB cy qq bi si f)) := hD2
                refine lv_aload_n hx hb dX6_copy_73 rfl (lv_at hl2 2 rfl) ?_
                refine lv_iconst (v := 2) hx hb dX6_copy_74 (by decide) ?_
                refine cV_i (wc := [sO cy hh a kk dd b w ee qq ik, ia cy (hh 1) 7 C]) (wr := shB cy qq bi si f) (rest := []) hx hb hml hown hw hG hK hP2 hD2 hS2 hA hl2 kc_X6_find kw_2_59 [.int 2] (c_X6_find l D cy G H2.size hh a kk dd b w ee qq ik C 2 (by first | omega | assumption)) [0, 1] [2, 3, 4, 5, 6, 7, 8, 9, 10] rfl rfl rfl rfl rfl 0 rfl rfl rfl rfl rfl (Nat.le_of_ble_eq_true rfl) ⟨Nat.le_of_ble_eq_true rfl, Nat.le_of_ble_eq_true rfl⟩ dX6_copy_75 ⟨Nat.le_of_ble_eq_true rfl, Nat.le_of_ble_eq_true rfl⟩ (fun r_75 u9 H3 locs3 hu9 hP3 hD3 hS3 => ?_)
                clear hP2 hD2 hS2 locs2 H2
                have hr_75 := hu9
                replace hP3 : va_P D vwCl (shB cy qq bi si f ++ ([sO cy hh a kk dd b w ee qq ik, ia cy (hh 1) 7 (upd C 2 (C 2 + 1))])) H3 := hP3
                replace hD3 : va_D (va_A _ sz) (shB cy qq bi si f ++ ([sO cy hh a kk dd b w ee qq ik, ia cy (hh 1) 7 (upd C 2 (C 2 + 1))])) := hD3
                replace hP3 := hP3.sub (ws' := [sO cy hh a kk dd b w ee qq ik, ia cy (hh 1) 7 (upd C 2 (C 2 + 1))] ++ (shB cy qq bi si f)) [9, 10, 0, 1, 2, 3, 4, 5, 6, 7, 8] rfl
                replace hD3 := hD3.sub (ws' := [sO cy hh a kk dd b w ee qq ik, ia cy (hh 1) 7 (upd C 2 (C 2 + 1))] ++ (shB cy qq bi si f)) [9, 10, 0, 1, 2, 3, 4, 5, 6, 7, 8] (by decide) rfl
                subst hr_75
                have hcd : cCopy bi si 1 x2 2 x4 x5 = 2 := by unfold cCopy; clear hx hb hml hown hr hlocks hw hsz hA hG hK hP3 hD3 hS3 hl2; grind
                have hq9 : ([sO cy hh a kk dd b w ee qq ik, ia cy (hh 1) 7 (upd C 2 (C 2 + 1))] ++ (shB cy qq bi si f)) = ([sO cy hh a kk dd b w ee qq ik, ia cy (hh 1) 7 (fnd C (cCopy bi si 1 x2 2 x4 x5))] ++ (shB cy qq bi si f)) := congrArg (fun z9 => [sO cy hh a kk dd b w ee qq ik, ia cy (hh 1) 7 z9] ++ (shB cy qq bi si f)) (show (upd C 2 (C 2 + 1)) = (fnd C (cCopy bi si 1 x2 2 x4 x5)) from fnd_f hcd (by decide))
                replace hP3 := (congrArg (fun z9 => va_P D vwCl z9 _) hq9).mp hP3
                replace hD3 := (congrArg (fun z9 => va_D _ z9) hq9).mp hD3
                clear hq9
                have hq9 : ([sO cy hh a kk dd b w ee qq ik, ia cy (hh 1) 7 (fnd C (cCopy bi si 1 x2 2 x4 x5))] ++ (shB cy qq bi si f)) = ([sO cy hh a kk dd b w ee qq ik, ia cy (hh 1) 7 (fnd C (cCopy bi si 1 x2 2 x4 x5))] ++ (shB cy qq bi si (if cCopy bi si 1 x2 2 x4 x5 = 7 then va_up f (bstN 2) (va_cpy (f (bstN 1)) (f (bstN 2)) (bstN x2) (bstN x4) (bstN x5)) else f))) := congrArg (fun z9 => [sO cy hh a kk dd b w ee qq ik, ia cy (hh 1) 7 (fnd C (cCopy bi si 1 x2 2 x4 x5))] ++ (shB cy qq bi si z9)) (show f = (if cCopy bi si 1 x2 2 x4 x5 = 7 then va_up f (bstN 2) (va_cpy (f (bstN 1)) (f (bstN 2)) (bstN x2) (bstN x4) (bstN x5)) else f) from (if_neg (fun z9 => absurd (hcd.symm.trans z9) (by decide))).symm)
                replace hP3 := (congrArg (fun z9 => va_P D vwCl z9 _) hq9).mp hP3
                replace hD3 := (congrArg (fun z9 => va_D _ z9) hq9).mp hD3
                clear hq9
                refine re_i () hx hb hr hlocks hP3 hD3 hS3 dX6_copy_78 ?_
                exact (ans_f hcd (by decide) rfl)
            · replace hP2 : va_P D vwCl ([sO cy hh a kk dd b w ee qq ik, ia cy (hh 1) 7 C] ++ (shB cy qq bi si f)) H2 := hP2
              replace hD2 : va_D (va_A _ sz) ([sO cy hh a kk dd b w ee qq ik, ia cy (hh 1) 7 C] ++ (shB cy qq bi si f)) := hD2
              refine lv_aload_n hx hb dX6_copy_54 rfl (lv_at hl2 2 rfl) ?_
              refine lv_iconst (v := 5) hx hb dX6_copy_55 (by decide) ?_
              refine cV_i (wc := [sO cy hh a kk dd b w ee qq ik, ia cy (hh 1) 7 C]) (wr := shB cy qq bi si f) (rest := []) hx hb hml hown hw hG hK hP2 hD2 hS2 hA hl2 kc_X6_find kw_2_59 [.int 5] (c_X6_find l D cy G H2.size hh a kk dd b w ee qq ik C 5 (by first | omega | assumption)) [0, 1] [2, 3, 4, 5, 6, 7, 8, 9, 10] rfl rfl rfl rfl rfl 0 rfl rfl rfl rfl rfl (Nat.le_of_ble_eq_true rfl) ⟨Nat.le_of_ble_eq_true rfl, Nat.le_of_ble_eq_true rfl⟩ dX6_copy_56 ⟨Nat.le_of_ble_eq_true rfl, Nat.le_of_ble_eq_true rfl⟩ (fun r_56 u9 H3 locs3 hu9 hP3 hD3 hS3 => ?_)
              clear hP2 hD2 hS2 locs2 H2
              have hr_56 := hu9
              replace hP3 : va_P D vwCl (shB cy qq bi si f ++ ([sO cy hh a kk dd b w ee qq ik, ia cy (hh 1) 7 (upd C 5 (C 5 + 1))])) H3 := hP3
              replace hD3 : va_D (va_A _ sz) (shB cy qq bi si f ++ ([sO cy hh a kk dd b w ee qq ik, ia cy (hh 1) 7 (upd C 5 (C 5 + 1))])) := hD3
              replace hP3 := hP3.sub (ws' := [sO cy hh a kk dd b w ee qq ik, ia cy (hh 1) 7 (upd C 5 (C 5 + 1))] ++ (shB cy qq bi si f)) [9, 10, 0, 1, 2, 3, 4, 5, 6, 7, 8] rfl
              replace hD3 := hD3.sub (ws' := [sO cy hh a kk dd b w ee qq ik, ia cy (hh 1) 7 (upd C 5 (C 5 + 1))] ++ (shB cy qq bi si f)) [9, 10, 0, 1, 2, 3, 4, 5, 6, 7, 8] (by decide) rfl
              subst hr_56
              have hcd : cCopy bi si 1 x2 2 x4 x5 = 5 := by unfold cCopy; clear hx hb hml hown hr hlocks hw hsz hA hG hK hP3 hD3 hS3 hl2; grind
              have hq9 : ([sO cy hh a kk dd b w ee qq ik, ia cy (hh 1) 7 (upd C 5 (C 5 + 1))] ++ (shB cy qq bi si f)) = ([sO cy hh a kk dd b w ee qq ik, ia cy (hh 1) 7 (fnd C (cCopy bi si 1 x2 2 x4 x5))] ++ (shB cy qq bi si f)) := congrArg (fun z9 => [sO cy hh a kk dd b w ee qq ik, ia cy (hh 1) 7 z9] ++ (shB cy qq bi si f)) (show (upd C 5 (C 5 + 1)) = (fnd C (cCopy bi si 1 x2 2 x4 x5)) from fnd_f hcd (by decide))
              replace hP3 := (congrArg (fun z9 => va_P D vwCl z9 _) hq9).mp hP3
              replace hD3 := (congrArg (fun z9 => va_D _ z9) hq9).mp hD3
              clear hq9
              have hq9 : ([sO cy hh a kk dd b w ee qq ik, ia cy (hh 1) 7 (fnd C (cCopy bi si 1 x2 2 x4 x5))] ++ (shB cy qq bi si f)) = ([sO cy hh a kk dd b w ee qq ik, ia cy (hh 1) 7 (fnd C (cCopy bi si 1 x2 2 x4 x5))] ++ (shB cy qq bi si (if cCopy bi si 1 x2 2 x4 x5 = 7 then va_up f (bstN 2) (va_cpy (f (bstN 1)) (f (bstN 2)) (bstN x2) (bstN x4) (bstN x5)) else f))) := congrArg (fun z9 => [sO cy hh a kk dd b w ee qq ik, ia cy (hh 1) 7 (fnd C (cCopy bi si 1 x2 2 x4 x5))] ++ (shB cy qq bi si z9)) (show f = (if cCopy bi si 1 x2 2 x4 x5 = 7 then va_up f (bstN 2) (va_cpy (f (bstN 1)) (f (bstN 2)) (bstN x2) (bstN x4) (bstN x5)) else f) from (if_neg (fun z9 => absurd (hcd.symm.trans z9) (by decide))).symm)
              replace hP3 := (congrArg (fun z9 => va_P D vwCl z9 _) hq9).mp hP3
              replace hD3 := (congrArg (fun z9 => va_D _ z9) hq9).mp hD3
              clear hq9
              refine re_i () hx hb hr hlocks hP3 hD3 hS3 dX6_copy_59 ?_
              exact (ans_f hcd (by decide) rfl)
        · refine lv_iload_n hx hb dX6_copy_34 rfl (lv_at hl1 4 rfl) ?_
          refine ald_q hx hb hK hP2 2 3 rfl rfl rfl 3 rfl (by first | omega | assumption) (by decide) (rfl) dX6_copy_35 ?_
          refine lv_astore (lv' := [(7, .ref (qq 4)), (6, .ref (qq 2)), (0, .ref (hh 0)), (1, .int 1), (2, .int x2), (3, .int 3), (4, .int x4), (5, .int x5)]) hx hb dX6_copy_36 hl1 (by decide) rfl (fun ls2 hl2 => ?_)
          clear hl1 ls1
          refine lv_aload hx hb dX6_copy_38 (lv_at hl2 1 rfl) ?_
          refine va_get (D := D) (ci := 2) (v := .int (bi 1)) (C := RX2) (T := TX2) (N := 3) hx hb hw iX2 hown hK hP2 4 rfl rfl 1 (by decide) (hw _ kw_2_16) (fun _ h9 => h9) rfl dX6_copy_40 ?_
          refine lv_if_eq (tgt := 54) hx hb dX6_copy_43 (by decide) (fun c_43 => ?_) (fun c_43 => ?_)
          · replace hP2 : va_P D vwCl ([sO cy hh a kk dd b w ee qq ik, ia cy (hh 1) 7 C] ++ (shB cy qq bi si f)) H2 := hP2
            replace hD2 : va_D (va_A _ sz) ([sO cy hh a kk dd b w ee qq ik, ia cy (hh 1) 7 C] ++ (shB cy qq bi si f)) := hD2
            refine lv_aload_n hx hb dX6_copy_54 rfl (lv_at hl2 2 rfl) ?_
            refine lv_iconst (v := 5) hx hb dX6_copy_55 (by decide) ?_
            refine cV_i (wc := [sO cy hh a kk dd b w ee qq ik, ia cy (hh 1) 7 C]) (wr := shB cy qq bi si f) (rest := []) hx hb hml hown hw hG hK hP2 hD2 hS2 hA hl2 kc_X6_find kw_2_59 [.int 5] (c_X6_find l D cy G H2.size hh a kk dd b w ee qq ik C 5 (by first | omega | assumption)) [0, 1] [2, 3, 4, 5, 6, 7, 8, 9, 10] rfl rfl rfl rfl rfl 0 rfl rfl rfl rfl rfl (Nat.le_of_ble_eq_true rfl) ⟨Nat.le_of_ble_eq_true rfl, Nat.le_of_ble_eq_true rfl⟩ dX6_copy_56 ⟨Nat.le_of_ble_eq_true rfl, Nat.le_of_ble_eq_true rfl⟩ (fun r_56 u9 H3 locs3 hu9 hP3 hD3 hS3 => ?_)
            clear hP2 hD2 hS2 locs2 H2
            have hr_56 := hu9
            replace hP3 : va_P D vwCl (shB cy qq bi si f ++ ([sO cy hh a kk dd b w ee qq ik, ia cy (hh 1) 7 (upd C 5 (C 5 + 1))])) H3 := hP3
            replace hD3 : va_D (va_A _ sz) (shB cy qq bi si f ++ ([sO cy hh a kk dd b w ee qq ik, ia cy (hh 1) 7 (upd C 5 (C 5 + 1))])) := hD3
            replace hP3 := hP3.sub (ws' := [sO cy hh a kk dd b w ee qq ik, ia cy (hh 1) 7 (upd C 5 (C 5 + 1))] ++ (shB cy qq bi si f)) [9, 10, 0, 1, 2, 3, 4, 5, 6, 7, 8] rfl
            replace hD3 := hD3.sub (ws' := [sO cy hh a kk dd b w ee qq ik, ia cy (hh 1) 7 (upd C 5 (C 5 + 1))] ++ (shB cy qq bi si f)) [9, 10, 0, 1, 2, 3, 4, 5, 6, 7, 8] (by decide) rfl
            subst hr_56
            have hcd : cCopy bi si 1 x2 3 x4 x5 = 5 := by unfold cCopy; clear hx hb hml hown hr hlocks hw hsz hA hG hK hP3 hD3 hS3 hl2; grind
            have hq9 : ([sO cy hh a kk dd b w ee qq ik, ia cy (hh 1) 7 (upd C 5 (C 5 + 1))] ++ (shB cy qq bi si f)) = ([sO cy hh a kk dd b w ee qq ik, ia cy (hh 1) 7 (fnd C (cCopy bi si 1 x2 3 x4 x5))] ++ (shB cy qq bi si f)) := congrArg (fun z9 => [sO cy hh a kk dd b w ee qq ik, ia cy (hh 1) 7 z9] ++ (shB cy qq bi si f)) (show (upd C 5 (C 5 + 1)) = (fnd C (cCopy bi si 1 x2 3 x4 x5)) from fnd_f hcd (by decide))
            replace hP3 := (congrArg (fun z9 => va_P D vwCl z9 _) hq9).mp hP3
            replace hD3 := (congrArg (fun z9 => va_D _ z9) hq9).mp hD3
            clear hq9
            have hq9 : ([sO cy hh a kk dd b w ee qq ik, ia cy (hh 1) 7 (fnd C (cCopy bi si 1 x2 3 x4 x5))] ++ (shB cy qq bi si f)) = ([sO cy hh a kk dd b w ee qq ik, ia cy (hh 1) 7 (fnd C (cCopy bi si 1 x2 3 x4 x5))] ++ (shB cy qq bi si (if cCopy bi si 1 x2 3 x4 x5 = 7 then va_up f (bstN 3) (va_cpy (f (bstN 1)) (f (bstN 3)) (bstN x2) (bstN x4) (bstN x5)) else f))) := congrArg (fun z9 => [sO cy hh a kk dd b w ee qq ik, ia cy (hh 1) 7 (fnd C (cCopy bi si 1 x2 3 x4 x5))] ++ (shB cy qq bi si z9)) (show f = (if cCopy bi si 1 x2 3 x4 x5 = 7 then va_up f (bstN 3) (va_cpy (f (bstN 1)) (f (bstN 3)) (bstN x2) (bstN x4) (bstN x5)) else f) from (if_neg (fun z9 => absurd (hcd.symm.trans z9) (by decide))).symm)
            replace hP3 := (congrArg (fun z9 => va_P D vwCl z9 _) hq9).mp hP3
            replace hD3 := (congrArg (fun z9 => va_D _ z9) hq9).mp hD3
            clear hq9
            refine re_i () hx hb hr hlocks hP3 hD3 hS3 dX6_copy_59 ?_
            exact (ans_f hcd (by decide) rfl)
          · refine lv_aload hx hb dX6_copy_46 (lv_at hl2 0 rfl) ?_
            refine va_get (D := D) (ci := 2) (v := .int (bi 3)) (C := RX2) (T := TX2) (N := 3) hx hb hw iX2 hown hK hP2 6 rfl rfl 1 (by decide) (hw _ kw_2_16) (fun _ h9 => h9) rfl dX6_copy_48 ?_
            refine lv_if_ne (tgt := 60) hx hb dX6_copy_51 (by decide) (fun c_51 => ?_) (fun c_51 => ?_)
            · refine lv_aload hx hb dX6_copy_60 (lv_at hl2 1 rfl) ?_
              refine va_get (D := D) (ci := 2) (v := .int (bi 1)) (C := RX2) (T := TX2) (N := 3) hx hb hw iX2 hown hK hP2 4 rfl rfl 1 (by decide) (hw _ kw_2_16) (fun _ h9 => h9) rfl dX6_copy_62 ?_
              refine lv_aload hx hb dX6_copy_65 (lv_at hl2 0 rfl) ?_
              refine va_get (D := D) (ci := 2) (v := .int (bi 3)) (C := RX2) (T := TX2) (N := 3) hx hb hw iX2 hown hK hP2 6 rfl rfl 1 (by decide) (hw _ kw_2_16) (fun _ h9 => h9) rfl dX6_copy_67 ?_
              refine lv_icmp_eq (tgt := 79) hx hb dX6_copy_70 (by decide) (fun c_70 => ?_) (fun c_70 => ?_)
              · refine lv_aload hx hb dX6_copy_79 (lv_at hl2 1 rfl) ?_
                refine lv_iload_n hx hb dX6_copy_81 rfl (lv_at hl2 4 rfl) ?_
                refine lv_iload hx hb dX6_copy_82 (lv_at hl2 7 rfl) ?_
                refine rV_i (wc := [hO cy (qq 2) (qq 6) (bi 1) (si 1), la cy (qq 6) 40 (f 1)]) (rest := []) hx hb hml hown hw hG hK hP2 hS2 hA hl2 kc_X2_hasRow kw_4_12 [.int x2, .int x5] (c_X2_hasRow l D cy G H2.size (qq 2) (qq 6) (bi 1) (si 1) (f 1) x2 x5) [4, 8] rfl 0 rfl rfl rfl rfl rfl (Nat.le_of_ble_eq_true rfl) ⟨Nat.le_of_ble_eq_true rfl, Nat.le_of_ble_eq_true rfl⟩ dX6_copy_84 ⟨Nat.le_of_ble_eq_true rfl, Nat.le_of_ble_eq_true rfl⟩ (fun r_84 H3 locs3 hr_84 hP3 hS3 => ?_)
                have hD3 := hD2
                clear hP2 hD2 hS2 locs2 H2
                subst hr_84
                refine lb_eq (tgt := 102) hx hb dX6_copy_87 (by decide) (fun c_87 => ?_) (fun c_87 => ?_)
                · replace hP3 : va_P D vwCl ([sO cy hh a kk dd b w ee qq ik, ia cy (hh 1) 7 C] ++ (shB cy qq bi si f)) H3 := hP3
                  replace hD3 : va_D (va_A _ sz) ([sO cy hh a kk dd b w ee qq ik, ia cy (hh 1) 7 C] ++ (shB cy qq bi si f)) := hD3
                  refine lv_aload_n hx hb dX6_copy_102 rfl (lv_at hl2 2 rfl) ?_
                  refine lv_iconst (v := 0) hx hb dX6_copy_103 (by decide) ?_
                  refine cV_i (wc := [sO cy hh a kk dd b w ee qq ik, ia cy (hh 1) 7 C]) (wr := shB cy qq bi si f) (rest := []) hx hb hml hown hw hG hK hP3 hD3 hS3 hA hl2 kc_X6_find kw_2_59 [.int 0] (c_X6_find l D cy G H3.size hh a kk dd b w ee qq ik C 0 (by first | omega | assumption)) [0, 1] [2, 3, 4, 5, 6, 7, 8, 9, 10] rfl rfl rfl rfl rfl 0 rfl rfl rfl rfl rfl (Nat.le_of_ble_eq_true rfl) ⟨Nat.le_of_ble_eq_true rfl, Nat.le_of_ble_eq_true rfl⟩ dX6_copy_104 ⟨Nat.le_of_ble_eq_true rfl, Nat.le_of_ble_eq_true rfl⟩ (fun r_104 u9 H4 locs4 hu9 hP4 hD4 hS4 => ?_)
                  clear hP3 hD3 hS3 locs3 H3
                  have hr_104 := hu9
                  replace hP4 : va_P D vwCl (shB cy qq bi si f ++ ([sO cy hh a kk dd b w ee qq ik, ia cy (hh 1) 7 (upd C 0 (C 0 + 1))])) H4 := hP4
                  replace hD4 : va_D (va_A _ sz) (shB cy qq bi si f ++ ([sO cy hh a kk dd b w ee qq ik, ia cy (hh 1) 7 (upd C 0 (C 0 + 1))])) := hD4
                  replace hP4 := hP4.sub (ws' := [sO cy hh a kk dd b w ee qq ik, ia cy (hh 1) 7 (upd C 0 (C 0 + 1))] ++ (shB cy qq bi si f)) [9, 10, 0, 1, 2, 3, 4, 5, 6, 7, 8] rfl
                  replace hD4 := hD4.sub (ws' := [sO cy hh a kk dd b w ee qq ik, ia cy (hh 1) 7 (upd C 0 (C 0 + 1))] ++ (shB cy qq bi si f)) [9, 10, 0, 1, 2, 3, 4, 5, 6, 7, 8] (by decide) rfl
                  subst hr_104
                  have hcd : cCopy bi si 1 x2 3 x4 x5 = 0 := by unfold cCopy; clear hx hb hml hown hr hlocks hw hsz hA hG hK hP4 hD4 hS4 hl2; grind
                  have hq9 : ([sO cy hh a kk dd b w ee qq ik, ia cy (hh 1) 7 (upd C 0 (C 0 + 1))] ++ (shB cy qq bi si f)) = ([sO cy hh a kk dd b w ee qq ik, ia cy (hh 1) 7 (fnd C (cCopy bi si 1 x2 3 x4 x5))] ++ (shB cy qq bi si f)) := congrArg (fun z9 => [sO cy hh a kk dd b w ee qq ik, ia cy (hh 1) 7 z9] ++ (shB cy qq bi si f)) (show (upd C 0 (C 0 + 1)) = (fnd C (cCopy bi si 1 x2 3 x4 x5)) from fnd_f hcd (by decide))
                  replace hP4 := (congrArg (fun z9 => va_P D vwCl z9 _) hq9).mp hP4
                  replace hD4 := (congrArg (fun z9 => va_D _ z9) hq9).mp hD4
                  clear hq9
                  have hq9 : ([sO cy hh a kk dd b w ee qq ik, ia cy (hh 1) 7 (fnd C (cCopy bi si 1 x2 3 x4 x5))] ++ (shB cy qq bi si f)) = ([sO cy hh a kk dd b w ee qq ik, ia cy (hh 1) 7 (fnd C (cCopy bi si 1 x2 3 x4 x5))] ++ (shB cy qq bi si (if cCopy bi si 1 x2 3 x4 x5 = 7 then va_up f (bstN 3) (va_cpy (f (bstN 1)) (f (bstN 3)) (bstN x2) (bstN x4) (bstN x5)) else f))) := congrArg (fun z9 => [sO cy hh a kk dd b w ee qq ik, ia cy (hh 1) 7 (fnd C (cCopy bi si 1 x2 3 x4 x5))] ++ (shB cy qq bi si z9)) (show f = (if cCopy bi si 1 x2 3 x4 x5 = 7 then va_up f (bstN 3) (va_cpy (f (bstN 1)) (f (bstN 3)) (bstN x2) (bstN x4) (bstN x5)) else f) from (if_neg (fun z9 => absurd (hcd.symm.trans z9) (by decide))).symm)
                  replace hP4 := (congrArg (fun z9 => va_P D vwCl z9 _) hq9).mp hP4
                  replace hD4 := (congrArg (fun z9 => va_D _ z9) hq9).mp hD4
                  clear hq9
                  refine re_i () hx hb hr hlocks hP4 hD4 hS4 dX6_copy_107 ?_
                  exact (ans_f hcd (by decide) rfl)
                · refine lv_aload hx hb dX6_copy_90 (lv_at hl2 0 rfl) ?_
                  refine lv_iload hx hb dX6_copy_92 (lv_at hl2 6 rfl) ?_
                  refine lv_iload hx hb dX6_copy_94 (lv_at hl2 7 rfl) ?_
                  refine rV_i (wc := [hO cy (qq 4) (qq 8) (bi 3) (si 3), la cy (qq 8) 40 (f 3)]) (rest := []) hx hb hml hown hw hG hK hP3 hS3 hA hl2 kc_X2_hasRow kw_4_12 [.int x4, .int x5] (c_X2_hasRow l D cy G H3.size (qq 4) (qq 8) (bi 3) (si 3) (f 3) x4 x5) [6, 10] rfl 0 rfl rfl rfl rfl rfl (Nat.le_of_ble_eq_true rfl) ⟨Nat.le_of_ble_eq_true rfl, Nat.le_of_ble_eq_true rfl⟩ dX6_copy_96 ⟨Nat.le_of_ble_eq_true rfl, Nat.le_of_ble_eq_true rfl⟩ (fun r_96 H4 locs4 hr_96 hP4 hS4 => ?_)
                  have hD4 := hD3
                  clear hP3 hD3 hS3 locs3 H3
                  subst hr_96
                  refine lb_ne (tgt := 108) hx hb dX6_copy_99 (by decide) (fun c_99 => ?_) (fun c_99 => ?_)
                  · have h8 := c_87
                    rw [(hso 1 (by decide)).1] at h8
                    have h9 := c_99
                    rw [(hso 3 (by decide)).1] at h9
                    obtain ⟨a1, n1, hab, rfl, rfl⟩ := row_at (by omega) h8
                    obtain ⟨a2, n2, hab2, rfl, e4⟩ := row_at (by omega) h9
                    obtain rfl : n1 = n2 := (nI_eq (by omega) (by omega)).mp e4
                    have hba1 : bstN (nI a1) = a1 := bst_n (by omega)
                    have hba2 : bstN (nI a2) = a2 := bst_n (by omega)
                    have hbn : bstN (nI n1) = n1 := bst_n (by omega)
                    refine lv_aload hx hb dX6_copy_108 (lv_at hl2 1 rfl) ?_
                    refine va_get (D := D) (ci := 2) (v := .ref (qq 6)) (C := RX2) (T := TX2) (N := 3) hx hb hw iX2 hown hK hP4 4 rfl rfl 0 (by decide) (hw _ kw_2_14) (fun _ h9 => h9) rfl dX6_copy_110 ?_
                    refine lv_iload_n hx hb dX6_copy_113 rfl (lv_at hl2 4 rfl) ?_
                    refine lv_aload hx hb dX6_copy_114 (lv_at hl2 0 rfl) ?_
                    refine va_get (D := D) (ci := 2) (v := .ref (qq 8)) (C := RX2) (T := TX2) (N := 3) hx hb hw iX2 hown hK hP4 6 rfl rfl 0 (by decide) (hw _ kw_2_14) (fun _ h9 => h9) rfl dX6_copy_116 ?_
                    refine lv_iload hx hb dX6_copy_119 (lv_at hl2 6 rfl) ?_
                    refine lv_iload hx hb dX6_copy_121 (lv_at hl2 7 rfl) ?_
                    refine acpL (f := f 1) (g := f 3) (ws' := [sO cy hh a kk dd b w ee qq ik, ia cy (hh 1) 7 C, qsB cy qq, hO cy (qq 1) (qq 5) (bi 0) (si 0), hO cy (qq 2) (qq 6) (bi 1) (si 1), hO cy (qq 3) (qq 7) (bi 2) (si 2), hO cy (qq 4) (qq 8) (bi 3) (si 3), la cy (qq 5) 40 (f 0), la cy (qq 6) 40 (f 1), la cy (qq 7) 40 (f 2), la cy (qq 8) 40 (va_cpy (f 1) (f 3) a1 a2 n1)]) hx hb hml hl2 hw hown kw_4_16 kw_2_162 kw_2_161 kw_1_9 hK hP4 hD4 hS4 8 10 1 rfl rfl rfl a1 a2 n1 rfl rfl rfl (by omega) (by omega) (by omega) (by first | decide | omega) (by first | decide | omega) rfl (Nat.le_of_ble_eq_true rfl) (Nat.le_of_ble_eq_true rfl) dX6_copy_123 (fun H5 locs5 hP5 hD5 hS5 => ?_)
                    clear hP4 hD4 hS4 locs4 H4
                    replace hP5 : va_P D vwCl ([sO cy hh a kk dd b w ee qq ik, ia cy (hh 1) 7 C] ++ (shB cy qq bi si (va_up f 3 (va_cpy (f 1) (f 3) a1 a2 n1)))) H5 := hP5
                    replace hD5 : va_D (va_A _ sz) ([sO cy hh a kk dd b w ee qq ik, ia cy (hh 1) 7 C] ++ (shB cy qq bi si (va_up f 3 (va_cpy (f 1) (f 3) a1 a2 n1)))) := hD5
                    refine lv_iload hx hb dX6_copy_126 (lv_at hl2 7 rfl) ?_
                    have hcd : cCopy bi si 1 (nI a1) 3 (nI a2) (nI n1) = 7 := by unfold cCopy; clear hx hb hml hown hr hlocks hw hsz hA hG hK hP5 hD5 hS5 hl2; grind
                    have hq9 : ([sO cy hh a kk dd b w ee qq ik, ia cy (hh 1) 7 C] ++ (shB cy qq bi si (va_up f 3 (va_cpy (f 1) (f 3) a1 a2 n1)))) = ([sO cy hh a kk dd b w ee qq ik, ia cy (hh 1) 7 (fnd C (cCopy bi si 1 (nI a1) 3 (nI a2) (nI n1)))] ++ (shB cy qq bi si (va_up f 3 (va_cpy (f 1) (f 3) a1 a2 n1)))) := congrArg (fun z9 => [sO cy hh a kk dd b w ee qq ik, ia cy (hh 1) 7 z9] ++ (shB cy qq bi si (va_up f 3 (va_cpy (f 1) (f 3) a1 a2 n1)))) (show C = (fnd C (cCopy bi si 1 (nI a1) 3 (nI a2) (nI n1))) from fnd_o hcd)
                    replace hP5 := (congrArg (fun z9 => va_P D vwCl z9 _) hq9).mp hP5
                    replace hD5 := (congrArg (fun z9 => va_D _ z9) hq9).mp hD5
                    clear hq9
                    have hq9 : ([sO cy hh a kk dd b w ee qq ik, ia cy (hh 1) 7 (fnd C (cCopy bi si 1 (nI a1) 3 (nI a2) (nI n1)))] ++ (shB cy qq bi si (va_up f 3 (va_cpy (f 1) (f 3) a1 a2 n1)))) = ([sO cy hh a kk dd b w ee qq ik, ia cy (hh 1) 7 (fnd C (cCopy bi si 1 (nI a1) 3 (nI a2) (nI n1)))] ++ (shB cy qq bi si (if cCopy bi si 1 (nI a1) 3 (nI a2) (nI n1) = 7 then va_up f (bstN 3) (va_cpy (f (bstN 1)) (f (bstN 3)) (bstN (nI a1)) (bstN (nI a2)) (bstN (nI n1))) else f))) := congrArg (fun z9 => [sO cy hh a kk dd b w ee qq ik, ia cy (hh 1) 7 (fnd C (cCopy bi si 1 (nI a1) 3 (nI a2) (nI n1)))] ++ (shB cy qq bi si z9)) (show (va_up f 3 (va_cpy (f 1) (f 3) a1 a2 n1)) = (if cCopy bi si 1 (nI a1) 3 (nI a2) (nI n1) = 7 then va_up f (bstN 3) (va_cpy (f (bstN 1)) (f (bstN 3)) (bstN (nI a1)) (bstN (nI a2)) (bstN (nI n1))) else f) from by rw [if_pos hcd]; simp only [hba1, hba2, hbn, hb0, hb1, hb2, hb3])
                    replace hP5 := (congrArg (fun z9 => va_P D vwCl z9 _) hq9).mp hP5
                    replace hD5 := (congrArg (fun z9 => va_D _ z9) hq9).mp hD5
                    clear hq9
                    refine re_i () hx hb hr hlocks hP5 hD5 hS5 dX6_copy_128 ?_
                    exact (ans_o hcd (rfl))
                  · replace hP4 : va_P D vwCl ([sO cy hh a kk dd b w ee qq ik, ia cy (hh 1) 7 C] ++ (shB cy qq bi si f)) H4 := hP4
                    replace hD4 : va_D (va_A _ sz) ([sO cy hh a kk dd b w ee qq ik, ia cy (hh 1) 7 C] ++ (shB cy qq bi si f)) := hD4
                    refine lv_aload_n hx hb dX6_copy_102 rfl (lv_at hl2 2 rfl) ?_
                    refine lv_iconst (v := 0) hx hb dX6_copy_103 (by decide) ?_
                    refine cV_i (wc := [sO cy hh a kk dd b w ee qq ik, ia cy (hh 1) 7 C]) (wr := shB cy qq bi si f) (rest := []) hx hb hml hown hw hG hK hP4 hD4 hS4 hA hl2 kc_X6_find kw_2_59 [.int 0] (c_X6_find l D cy G H4.size hh a kk dd b w ee qq ik C 0 (by first | omega | assumption)) [0, 1] [2, 3, 4, 5, 6, 7, 8, 9, 10] rfl rfl rfl rfl rfl 0 rfl rfl rfl rfl rfl (Nat.le_of_ble_eq_true rfl) ⟨Nat.le_of_ble_eq_true rfl, Nat.le_of_ble_eq_true rfl⟩ dX6_copy_104 ⟨Nat.le_of_ble_eq_true rfl, Nat.le_of_ble_eq_true rfl⟩ (fun r_104 u9 H5 locs5 hu9 hP5 hD5 hS5 => ?_)
                    clear hP4 hD4 hS4 locs4 H4
                    have hr_104 := hu9
                    replace hP5 : va_P D vwCl (shB cy qq bi si f ++ ([sO cy hh a kk dd b w ee qq ik, ia cy (hh 1) 7 (upd C 0 (C 0 + 1))])) H5 := hP5
                    replace hD5 : va_D (va_A _ sz) (shB cy qq bi si f ++ ([sO cy hh a kk dd b w ee qq ik, ia cy (hh 1) 7 (upd C 0 (C 0 + 1))])) := hD5
                    replace hP5 := hP5.sub (ws' := [sO cy hh a kk dd b w ee qq ik, ia cy (hh 1) 7 (upd C 0 (C 0 + 1))] ++ (shB cy qq bi si f)) [9, 10, 0, 1, 2, 3, 4, 5, 6, 7, 8] rfl
                    replace hD5 := hD5.sub (ws' := [sO cy hh a kk dd b w ee qq ik, ia cy (hh 1) 7 (upd C 0 (C 0 + 1))] ++ (shB cy qq bi si f)) [9, 10, 0, 1, 2, 3, 4, 5, 6, 7, 8] (by decide) rfl
                    subst hr_104
                    have hcd : cCopy bi si 1 x2 3 x4 x5 = 0 := by unfold cCopy; clear hx hb hml hown hr hlocks hw hsz hA hG hK hP5 hD5 hS5 hl2; grind
                    have hq9 : ([sO cy hh a kk dd b w ee qq ik, ia cy (hh 1) 7 (upd C 0 (C 0 + 1))] ++ (shB cy qq bi si f)) = ([sO cy hh a kk dd b w ee qq ik, ia cy (hh 1) 7 (fnd C (cCopy bi si 1 x2 3 x4 x5))] ++ (shB cy qq bi si f)) := congrArg (fun z9 => [sO cy hh a kk dd b w ee qq ik, ia cy (hh 1) 7 z9] ++ (shB cy qq bi si f)) (show (upd C 0 (C 0 + 1)) = (fnd C (cCopy bi si 1 x2 3 x4 x5)) from fnd_f hcd (by decide))
                    replace hP5 := (congrArg (fun z9 => va_P D vwCl z9 _) hq9).mp hP5
                    replace hD5 := (congrArg (fun z9 => va_D _ z9) hq9).mp hD5
                    clear hq9
                    have hq9 : ([sO cy hh a kk dd b w ee qq ik, ia cy (hh 1) 7 (fnd C (cCopy bi si 1 x2 3 x4 x5))] ++ (shB cy qq bi si f)) = ([sO cy hh a kk dd b w ee qq ik, ia cy (hh 1) 7 (fnd C (cCopy bi si 1 x2 3 x4 x5))] ++ (shB cy qq bi si (if cCopy bi si 1 x2 3 x4 x5 = 7 then va_up f (bstN 3) (va_cpy (f (bstN 1)) (f (bstN 3)) (bstN x2) (bstN x4) (bstN x5)) else f))) := congrArg (fun z9 => [sO cy hh a kk dd b w ee qq ik, ia cy (hh 1) 7 (fnd C (cCopy bi si 1 x2 3 x4 x5))] ++ (shB cy qq bi si z9)) (show f = (if cCopy bi si 1 x2 3 x4 x5 = 7 then va_up f (bstN 3) (va_cpy (f (bstN 1)) (f (bstN 3)) (bstN x2) (bstN x4) (bstN x5)) else f) from (if_neg (fun z9 => absurd (hcd.symm.trans z9) (by decide))).symm)
                    replace hP5 := (congrArg (fun z9 => va_P D vwCl z9 _) hq9).mp hP5
                    replace hD5 := (congrArg (fun z9 => va_D _ z9) hq9).mp hD5
                    clear hq9
                    refine re_i () hx hb hr hlocks hP5 hD5 hS5 dX6_copy_107 ?_
                    exact (ans_f hcd (by decide) rfl)
              · replace hP2 : va_P D vwCl ([sO cy hh a kk dd b w ee qq ik, ia cy (hh 1) 7 C] ++ (shB cy qq bi si f)) H2 := hP2
                replace hD2 : va_D (va_A _ sz) ([sO cy hh a kk dd b w ee qq ik, ia cy (hh 1) 7 C] ++ (shB cy qq bi si f)) := hD2
                refine lv_aload_n hx hb dX6_copy_73 rfl (lv_at hl2 2 rfl) ?_
                refine lv_iconst (v := 2) hx hb dX6_copy_74 (by decide) ?_
                refine cV_i (wc := [sO cy hh a kk dd b w ee qq ik, ia cy (hh 1) 7 C]) (wr := shB cy qq bi si f) (rest := []) hx hb hml hown hw hG hK hP2 hD2 hS2 hA hl2 kc_X6_find kw_2_59 [.int 2] (c_X6_find l D cy G H2.size hh a kk dd b w ee qq ik C 2 (by first | omega | assumption)) [0, 1] [2, 3, 4, 5, 6, 7, 8, 9, 10] rfl rfl rfl rfl rfl 0 rfl rfl rfl rfl rfl (Nat.le_of_ble_eq_true rfl) ⟨Nat.le_of_ble_eq_true rfl, Nat.le_of_ble_eq_true rfl⟩ dX6_copy_75 ⟨Nat.le_of_ble_eq_true rfl, Nat.le_of_ble_eq_true rfl⟩ (fun r_75 u9 H3 locs3 hu9 hP3 hD3 hS3 => ?_)
                clear hP2 hD2 hS2 locs2 H2
                have hr_75 := hu9
                replace hP3 : va_P D vwCl (shB cy qq bi si f ++ ([sO cy hh a kk dd b w ee qq ik, ia cy (hh 1) 7 (upd C 2 (C 2 + 1))])) H3 := hP3
                replace hD3 : va_D (va_A _ sz) (shB cy qq bi si f ++ ([sO cy hh a kk dd b w ee qq ik, ia cy (hh 1) 7 (upd C 2 (C 2 + 1))])) := hD3
                replace hP3 := hP3.sub (ws' := [sO cy hh a kk dd b w ee qq ik, ia cy (hh 1) 7 (upd C 2 (C 2 + 1))] ++ (shB cy qq bi si f)) [9, 10, 0, 1, 2, 3, 4, 5, 6, 7, 8] rfl
                replace hD3 := hD3.sub (ws' := [sO cy hh a kk dd b w ee qq ik, ia cy (hh 1) 7 (upd C 2 (C 2 + 1))] ++ (shB cy qq bi si f)) [9, 10, 0, 1, 2, 3, 4, 5, 6, 7, 8] (by decide) rfl
                subst hr_75
                have hcd : cCopy bi si 1 x2 3 x4 x5 = 2 := by unfold cCopy; clear hx hb hml hown hr hlocks hw hsz hA hG hK hP3 hD3 hS3 hl2; grind
                have hq9 : ([sO cy hh a kk dd b w ee qq ik, ia cy (hh 1) 7 (upd C 2 (C 2 + 1))] ++ (shB cy qq bi si f)) = ([sO cy hh a kk dd b w ee qq ik, ia cy (hh 1) 7 (fnd C (cCopy bi si 1 x2 3 x4 x5))] ++ (shB cy qq bi si f)) := congrArg (fun z9 => [sO cy hh a kk dd b w ee qq ik, ia cy (hh 1) 7 z9] ++ (shB cy qq bi si f)) (show (upd C 2 (C 2 + 1)) = (fnd C (cCopy bi si 1 x2 3 x4 x5)) from fnd_f hcd (by decide))
                replace hP3 := (congrArg (fun z9 => va_P D vwCl z9 _) hq9).mp hP3
                replace hD3 := (congrArg (fun z9 => va_D _ z9) hq9).mp hD3
                clear hq9
                have hq9 : ([sO cy hh a kk dd b w ee qq ik, ia cy (hh 1) 7 (fnd C (cCopy bi si 1 x2 3 x4 x5))] ++ (shB cy qq bi si f)) = ([sO cy hh a kk dd b w ee qq ik, ia cy (hh 1) 7 (fnd C (cCopy bi si 1 x2 3 x4 x5))] ++ (shB cy qq bi si (if cCopy bi si 1 x2 3 x4 x5 = 7 then va_up f (bstN 3) (va_cpy (f (bstN 1)) (f (bstN 3)) (bstN x2) (bstN x4) (bstN x5)) else f))) := congrArg (fun z9 => [sO cy hh a kk dd b w ee qq ik, ia cy (hh 1) 7 (fnd C (cCopy bi si 1 x2 3 x4 x5))] ++ (shB cy qq bi si z9)) (show f = (if cCopy bi si 1 x2 3 x4 x5 = 7 then va_up f (bstN 3) (va_cpy (f (bstN 1)) (f (bstN 3)) (bstN x2) (bstN x4) (bstN x5)) else f) from (if_neg (fun z9 => absurd (hcd.symm.trans z9) (by decide))).symm)
                replace hP3 := (congrArg (fun z9 => va_P D vwCl z9 _) hq9).mp hP3
                replace hD3 := (congrArg (fun z9 => va_D _ z9) hq9).mp hD3
                clear hq9
                refine re_i () hx hb hr hlocks hP3 hD3 hS3 dX6_copy_78 ?_
                exact (ans_f hcd (by decide) rfl)
            · replace hP2 : va_P D vwCl ([sO cy hh a kk dd b w ee qq ik, ia cy (hh 1) 7 C] ++ (shB cy qq bi si f)) H2 := hP2
              replace hD2 : va_D (va_A _ sz) ([sO cy hh a kk dd b w ee qq ik, ia cy (hh 1) 7 C] ++ (shB cy qq bi si f)) := hD2
              refine lv_aload_n hx hb dX6_copy_54 rfl (lv_at hl2 2 rfl) ?_
              refine lv_iconst (v := 5) hx hb dX6_copy_55 (by decide) ?_
              refine cV_i (wc := [sO cy hh a kk dd b w ee qq ik, ia cy (hh 1) 7 C]) (wr := shB cy qq bi si f) (rest := []) hx hb hml hown hw hG hK hP2 hD2 hS2 hA hl2 kc_X6_find kw_2_59 [.int 5] (c_X6_find l D cy G H2.size hh a kk dd b w ee qq ik C 5 (by first | omega | assumption)) [0, 1] [2, 3, 4, 5, 6, 7, 8, 9, 10] rfl rfl rfl rfl rfl 0 rfl rfl rfl rfl rfl (Nat.le_of_ble_eq_true rfl) ⟨Nat.le_of_ble_eq_true rfl, Nat.le_of_ble_eq_true rfl⟩ dX6_copy_56 ⟨Nat.le_of_ble_eq_true rfl, Nat.le_of_ble_eq_true rfl⟩ (fun r_56 u9 H3 locs3 hu9 hP3 hD3 hS3 => ?_)
              clear hP2 hD2 hS2 locs2 H2
              have hr_56 := hu9
              replace hP3 : va_P D vwCl (shB cy qq bi si f ++ ([sO cy hh a kk dd b w ee qq ik, ia cy (hh 1) 7 (upd C 5 (C 5 + 1))])) H3 := hP3
              replace hD3 : va_D (va_A _ sz) (shB cy qq bi si f ++ ([sO cy hh a kk dd b w ee qq ik, ia cy (hh 1) 7 (upd C 5 (C 5 + 1))])) := hD3
              replace hP3 := hP3.sub (ws' := [sO cy hh a kk dd b w ee qq ik, ia cy (hh 1) 7 (upd C 5 (C 5 + 1))] ++ (shB cy qq bi si f)) [9, 10, 0, 1, 2, 3, 4, 5, 6, 7, 8] rfl
              replace hD3 := hD3.sub (ws' := [sO cy hh a kk dd b w ee qq ik, ia cy (hh 1) 7 (upd C 5 (C 5 + 1))] ++ (shB cy qq bi si f)) [9, 10, 0, 1, 2, 3, 4, 5, 6, 7, 8] (by decide) rfl
              subst hr_56
              have hcd : cCopy bi si 1 x2 3 x4 x5 = 5 := by unfold cCopy; clear hx hb hml hown hr hlocks hw hsz hA hG hK hP3 hD3 hS3 hl2; grind
              have hq9 : ([sO cy hh a kk dd b w ee qq ik, ia cy (hh 1) 7 (upd C 5 (C 5 + 1))] ++ (shB cy qq bi si f)) = ([sO cy hh a kk dd b w ee qq ik, ia cy (hh 1) 7 (fnd C (cCopy bi si 1 x2 3 x4 x5))] ++ (shB cy qq bi si f)) := congrArg (fun z9 => [sO cy hh a kk dd b w ee qq ik, ia cy (hh 1) 7 z9] ++ (shB cy qq bi si f)) (show (upd C 5 (C 5 + 1)) = (fnd C (cCopy bi si 1 x2 3 x4 x5)) from fnd_f hcd (by decide))
              replace hP3 := (congrArg (fun z9 => va_P D vwCl z9 _) hq9).mp hP3
              replace hD3 := (congrArg (fun z9 => va_D _ z9) hq9).mp hD3
              clear hq9
              have hq9 : ([sO cy hh a kk dd b w ee qq ik, ia cy (hh 1) 7 (fnd C (cCopy bi si 1 x2 3 x4 x5))] ++ (shB cy qq bi si f)) = ([sO cy hh a kk dd b w ee qq ik, ia cy (hh 1) 7 (fnd C (cCopy bi si 1 x2 3 x4 x5))] ++ (shB cy qq bi si (if cCopy bi si 1 x2 3 x4 x5 = 7 then va_up f (bstN 3) (va_cpy (f (bstN 1)) (f (bstN 3)) (bstN x2) (bstN x4) (bstN x5)) else f))) := congrArg (fun z9 => [sO cy hh a kk dd b w ee qq ik, ia cy (hh 1) 7 (fnd C (cCopy bi si 1 x2 3 x4 x5))] ++ (shB cy qq bi si z9)) (show f = (if cCopy bi si 1 x2 3 x4 x5 = 7 then va_up f (bstN 3) (va_cpy (f (bstN 1)) (f (bstN 3)) (bstN x2) (bstN x4) (bstN x5)) else f) from (if_neg (fun z9 => absurd (hcd.symm.trans z9) (by decide))).symm)
              replace hP3 := (congrArg (fun z9 => va_P D vwCl z9 _) hq9).mp hP3
              replace hD3 := (congrArg (fun z9 => va_D _ z9) hq9).mp hD3
              clear hq9
              refine re_i () hx hb hr hlocks hP3 hD3 hS3 dX6_copy_59 ?_
              exact (ans_f hcd (by decide) rfl)
      · replace hP2 : va_P D vwCl ([sO cy hh a kk dd b w ee qq ik, ia cy (hh 1) 7 C, qsB cy qq, hO cy (qq 1) (qq 5) (bi 0) (si 0), hO cy (qq 2) (qq 6) (bi 1) (si 1), hO cy (qq 3) (qq 7) (bi 2) (si 2), hO cy (qq 4) (qq 8) (bi 3) (si 3), la cy (qq 5) 40 (f 0), la cy (qq 6) 40 (f 1), la cy (qq 7) 40 (f 2), la cy (qq 8) 40 (f 3)]) H2 := hP2
        replace hD2 : va_D (va_A _ sz) ([sO cy hh a kk dd b w ee qq ik, ia cy (hh 1) 7 C, qsB cy qq, hO cy (qq 1) (qq 5) (bi 0) (si 0), hO cy (qq 2) (qq 6) (bi 1) (si 1), hO cy (qq 3) (qq 7) (bi 2) (si 2), hO cy (qq 4) (qq 8) (bi 3) (si 3), la cy (qq 5) 40 (f 0), la cy (qq 6) 40 (f 1), la cy (qq 7) 40 (f 2), la cy (qq 8) 40 (f 3)]) := hD2
        refine lv_aload_n hx hb dX6_copy_22 rfl (lv_at hl0 0 rfl) ?_
        refine va_get (D := D) (ci := 6) (v := .ref (qq 0)) (C := RX6) (T := TX6) (N := 9) hx hb hw iX6 hown hK hP2 0 rfl rfl 7 (by decide) (hw _ kw_2_34) (fun _ h9 => h9) rfl dX6_copy_23 ?_
        refine lv_iload_n hx hb dX6_copy_26 rfl (lv_at hl0 1 rfl) ?_
        refine ald_q hx hb hK hP2 2 3 rfl rfl rfl 2 rfl (by first | omega | assumption) (by decide) (rfl) dX6_copy_27 ?_
        refine lv_astore (lv' := [(6, .ref (qq 3)), (0, .ref (hh 0)), (1, .int 2), (2, .int x2), (3, .int x3), (4, .int x4), (5, .int x5)]) hx hb dX6_copy_28 hl0 (by decide) rfl (fun ls1 hl1 => ?_)
        clear hl0 ls0
        refine lv_aload_n hx hb dX6_copy_30 rfl (lv_at hl1 1 rfl) ?_
        refine va_get (D := D) (ci := 6) (v := .ref (qq 0)) (C := RX6) (T := TX6) (N := 9) hx hb hw iX6 hown hK hP2 0 rfl rfl 7 (by decide) (hw _ kw_2_34) (fun _ h9 => h9) rfl dX6_copy_31 ?_
        rcases in3 c_13 with rfl | rfl | rfl | rfl
        · refine lv_iload_n hx hb dX6_copy_34 rfl (lv_at hl1 4 rfl) ?_
          refine ald_q hx hb hK hP2 2 3 rfl rfl rfl 0 rfl (by first | omega | assumption) (by decide) (rfl) dX6_copy_35 ?_
          refine lv_astore (lv' := [(7, .ref (qq 1)), (6, .ref (qq 3)), (0, .ref (hh 0)), (1, .int 2), (2, .int x2), (3, .int 0), (4, .int x4), (5, .int x5)]) hx hb dX6_copy_36 hl1 (by decide) rfl (fun ls2 hl2 => ?_)
          clear hl1 ls1
          refine lv_aload hx hb dX6_copy_38 (lv_at hl2 1 rfl) ?_
          refine va_get (D := D) (ci := 2) (v := .int (bi 2)) (C := RX2) (T := TX2) (N := 3) hx hb hw iX2 hown hK hP2 5 rfl rfl 1 (by decide) (hw _ kw_2_16) (fun _ h9 => h9) rfl dX6_copy_40 ?_
          refine lv_if_eq (tgt := 54) hx hb dX6_copy_43 (by decide) (fun c_43 => ?_) (fun c_43 => ?_)
          · replace hP2 : va_P D vwCl ([sO cy hh a kk dd b w ee qq ik, ia cy (hh 1) 7 C] ++ (shB cy qq bi si f)) H2 := hP2
            replace hD2 : va_D (va_A _ sz) ([sO cy hh a kk dd b w ee qq ik, ia cy (hh 1) 7 C] ++ (shB cy qq bi si f)) := hD2
            refine lv_aload_n hx hb dX6_copy_54 rfl (lv_at hl2 2 rfl) ?_
            refine lv_iconst (v := 5) hx hb dX6_copy_55 (by decide) ?_
            refine cV_i (wc := [sO cy hh a kk dd b w ee qq ik, ia cy (hh 1) 7 C]) (wr := shB cy qq bi si f) (rest := []) hx hb hml hown hw hG hK hP2 hD2 hS2 hA hl2 kc_X6_find kw_2_59 [.int 5] (c_X6_find l D cy G H2.size hh a kk dd b w ee qq ik C 5 (by first | omega | assumption)) [0, 1] [2, 3, 4, 5, 6, 7, 8, 9, 10] rfl rfl rfl rfl rfl 0 rfl rfl rfl rfl rfl (Nat.le_of_ble_eq_true rfl) ⟨Nat.le_of_ble_eq_true rfl, Nat.le_of_ble_eq_true rfl⟩ dX6_copy_56 ⟨Nat.le_of_ble_eq_true rfl, Nat.le_of_ble_eq_true rfl⟩ (fun r_56 u9 H3 locs3 hu9 hP3 hD3 hS3 => ?_)
            clear hP2 hD2 hS2 locs2 H2
            have hr_56 := hu9
            replace hP3 : va_P D vwCl (shB cy qq bi si f ++ ([sO cy hh a kk dd b w ee qq ik, ia cy (hh 1) 7 (upd C 5 (C 5 + 1))])) H3 := hP3
            replace hD3 : va_D (va_A _ sz) (shB cy qq bi si f ++ ([sO cy hh a kk dd b w ee qq ik, ia cy (hh 1) 7 (upd C 5 (C 5 + 1))])) := hD3
            replace hP3 := hP3.sub (ws' := [sO cy hh a kk dd b w ee qq ik, ia cy (hh 1) 7 (upd C 5 (C 5 + 1))] ++ (shB cy qq bi si f)) [9, 10, 0, 1, 2, 3, 4, 5, 6, 7, 8] rfl
            replace hD3 := hD3.sub (ws' := [sO cy hh a kk dd b w ee qq ik, ia cy (hh 1) 7 (upd C 5 (C 5 + 1))] ++ (shB cy qq bi si f)) [9, 10, 0, 1, 2, 3, 4, 5, 6, 7, 8] (by decide) rfl
            subst hr_56
            have hcd : cCopy bi si 2 x2 0 x4 x5 = 5 := by unfold cCopy; clear hx hb hml hown hr hlocks hw hsz hA hG hK hP3 hD3 hS3 hl2; grind
            have hq9 : ([sO cy hh a kk dd b w ee qq ik, ia cy (hh 1) 7 (upd C 5 (C 5 + 1))] ++ (shB cy qq bi si f)) = ([sO cy hh a kk dd b w ee qq ik, ia cy (hh 1) 7 (fnd C (cCopy bi si 2 x2 0 x4 x5))] ++ (shB cy qq bi si f)) := congrArg (fun z9 => [sO cy hh a kk dd b w ee qq ik, ia cy (hh 1) 7 z9] ++ (shB cy qq bi si f)) (show (upd C 5 (C 5 + 1)) = (fnd C (cCopy bi si 2 x2 0 x4 x5)) from fnd_f hcd (by decide))
            replace hP3 := (congrArg (fun z9 => va_P D vwCl z9 _) hq9).mp hP3
            replace hD3 := (congrArg (fun z9 => va_D _ z9) hq9).mp hD3
            clear hq9
            have hq9 : ([sO cy hh a kk dd b w ee qq ik, ia cy (hh 1) 7 (fnd C (cCopy bi si 2 x2 0 x4 x5))] ++ (shB cy qq bi si f)) = ([sO cy hh a kk dd b w ee qq ik, ia cy (hh 1) 7 (fnd C (cCopy bi si 2 x2 0 x4 x5))] ++ (shB cy qq bi si (if cCopy bi si 2 x2 0 x4 x5 = 7 then va_up f (bstN 0) (va_cpy (f (bstN 2)) (f (bstN 0)) (bstN x2) (bstN x4) (bstN x5)) else f))) := congrArg (fun z9 => [sO cy hh a kk dd b w ee qq ik, ia cy (hh 1) 7 (fnd C (cCopy bi si 2 x2 0 x4 x5))] ++ (shB cy qq bi si z9)) (show f = (if cCopy bi si 2 x2 0 x4 x5 = 7 then va_up f (bstN 0) (va_cpy (f (bstN 2)) (f (bstN 0)) (bstN x2) (bstN x4) (bstN x5)) else f) from (if_neg (fun z9 => absurd (hcd.symm.trans z9) (by decide))).symm)
            replace hP3 := (congrArg (fun z9 => va_P D vwCl z9 _) hq9).mp hP3
            replace hD3 := (congrArg (fun z9 => va_D _ z9) hq9).mp hD3
            clear hq9
            refine re_i () hx hb hr hlocks hP3 hD3 hS3 dX6_copy_59 ?_
            exact (ans_f hcd (by decide) rfl)
          · refine lv_aload hx hb dX6_copy_46 (lv_at hl2 0 rfl) ?_
            refine va_get (D := D) (ci := 2) (v := .int (bi 0)) (C := RX2) (T := TX2) (N := 3) hx hb hw iX2 hown hK hP2 3 rfl rfl 1 (by decide) (hw _ kw_2_16) (fun _ h9 => h9) rfl dX6_copy_48 ?_
            refine lv_if_ne (tgt := 60) hx hb dX6_copy_51 (by decide) (fun c_51 => ?_) (fun c_51 => ?_)
            · refine lv_aload hx hb dX6_copy_60 (lv_at hl2 1 rfl) ?_
              refine va_get (D := D) (ci := 2) (v := .int (bi 2)) (C := RX2) (T := TX2) (N := 3) hx hb hw iX2 hown hK hP2 5 rfl rfl 1 (by decide) (hw _ kw_2_16) (fun _ h9 => h9) rfl dX6_copy_62 ?_
              refine lv_aload hx hb dX6_copy_65 (lv_at hl2 0 rfl) ?_
              refine va_get (D := D) (ci := 2) (v := .int (bi 0)) (C := RX2) (T := TX2) (N := 3) hx hb hw iX2 hown hK hP2 3 rfl rfl 1 (by decide) (hw _ kw_2_16) (fun _ h9 => h9) rfl dX6_copy_67 ?_
              refine lv_icmp_eq (tgt := 79) hx hb dX6_copy_70 (by decide) (fun c_70 => ?_) (fun c_70 => ?_)
              · refine lv_aload hx hb dX6_copy_79 (lv_at hl2 1 rfl) ?_
                refine lv_iload_n hx hb dX6_copy_81 rfl (lv_at hl2 4 rfl) ?_
                refine lv_iload hx hb dX6_copy_82 (lv_at hl2 7 rfl) ?_
                refine rV_i (wc := [hO cy (qq 3) (qq 7) (bi 2) (si 2), la cy (qq 7) 40 (f 2)]) (rest := []) hx hb hml hown hw hG hK hP2 hS2 hA hl2 kc_X2_hasRow kw_4_12 [.int x2, .int x5] (c_X2_hasRow l D cy G H2.size (qq 3) (qq 7) (bi 2) (si 2) (f 2) x2 x5) [5, 9] rfl 0 rfl rfl rfl rfl rfl (Nat.le_of_ble_eq_true rfl) ⟨Nat.le_of_ble_eq_true rfl, Nat.le_of_ble_eq_true rfl⟩ dX6_copy_84 ⟨Nat.le_of_ble_eq_true rfl, Nat.le_of_ble_eq_true rfl⟩ (fun r_84 H3 locs3 hr_84 hP3 hS3 => ?_)
                have hD3 := hD2
                clear hP2 hD2 hS2 locs2 H2
                subst hr_84
                refine lb_eq (tgt := 102) hx hb dX6_copy_87 (by decide) (fun c_87 => ?_) (fun c_87 => ?_)
                · replace hP3 : va_P D vwCl ([sO cy hh a kk dd b w ee qq ik, ia cy (hh 1) 7 C] ++ (shB cy qq bi si f)) H3 := hP3
                  replace hD3 : va_D (va_A _ sz) ([sO cy hh a kk dd b w ee qq ik, ia cy (hh 1) 7 C] ++ (shB cy qq bi si f)) := hD3
                  refine lv_aload_n hx hb dX6_copy_102 rfl (lv_at hl2 2 rfl) ?_
                  refine lv_iconst (v := 0) hx hb dX6_copy_103 (by decide) ?_
                  refine cV_i (wc := [sO cy hh a kk dd b w ee qq ik, ia cy (hh 1) 7 C]) (wr := shB cy qq bi si f) (rest := []) hx hb hml hown hw hG hK hP3 hD3 hS3 hA hl2 kc_X6_find kw_2_59 [.int 0] (c_X6_find l D cy G H3.size hh a kk dd b w ee qq ik C 0 (by first | omega | assumption)) [0, 1] [2, 3, 4, 5, 6, 7, 8, 9, 10] rfl rfl rfl rfl rfl 0 rfl rfl rfl rfl rfl (Nat.le_of_ble_eq_true rfl) ⟨Nat.le_of_ble_eq_true rfl, Nat.le_of_ble_eq_true rfl⟩ dX6_copy_104 ⟨Nat.le_of_ble_eq_true rfl, Nat.le_of_ble_eq_true rfl⟩ (fun r_104 u9 H4 locs4 hu9 hP4 hD4 hS4 => ?_)
                  clear hP3 hD3 hS3 locs3 H3
                  have hr_104 := hu9
                  replace hP4 : va_P D vwCl (shB cy qq bi si f ++ ([sO cy hh a kk dd b w ee qq ik, ia cy (hh 1) 7 (upd C 0 (C 0 + 1))])) H4 := hP4
                  replace hD4 : va_D (va_A _ sz) (shB cy qq bi si f ++ ([sO cy hh a kk dd b w ee qq ik, ia cy (hh 1) 7 (upd C 0 (C 0 + 1))])) := hD4
                  replace hP4 := hP4.sub (ws' := [sO cy hh a kk dd b w ee qq ik, ia cy (hh 1) 7 (upd C 0 (C 0 + 1))] ++ (shB cy qq bi si f)) [9, 10, 0, 1, 2, 3, 4, 5, 6, 7, 8] rfl
                  replace hD4 := hD4.sub (ws' := [sO cy hh a kk dd b w ee qq ik, ia cy (hh 1) 7 (upd C 0 (C 0 + 1))] ++ (shB cy qq bi si f)) [9, 10, 0, 1, 2, 3, 4, 5, 6, 7, 8] (by decide) rfl
                  subst hr_104
                  have hcd : cCopy bi si 2 x2 0 x4 x5 = 0 := by unfold cCopy; clear hx hb hml hown hr hlocks hw hsz hA hG hK hP4 hD4 hS4 hl2; grind
                  have hq9 : ([sO cy hh a kk dd b w ee qq ik, ia cy (hh 1) 7 (upd C 0 (C 0 + 1))] ++ (shB cy qq bi si f)) = ([sO cy hh a kk dd b w ee qq ik, ia cy (hh 1) 7 (fnd C (cCopy bi si 2 x2 0 x4 x5))] ++ (shB cy qq bi si f)) := congrArg (fun z9 => [sO cy hh a kk dd b w ee qq ik, ia cy (hh 1) 7 z9] ++ (shB cy qq bi si f)) (show (upd C 0 (C 0 + 1)) = (fnd C (cCopy bi si 2 x2 0 x4 x5)) from fnd_f hcd (by decide))
                  replace hP4 := (congrArg (fun z9 => va_P D vwCl z9 _) hq9).mp hP4
                  replace hD4 := (congrArg (fun z9 => va_D _ z9) hq9).mp hD4
                  clear hq9
                  have hq9 : ([sO cy hh a kk dd b w ee qq ik, ia cy (hh 1) 7 (fnd C (cCopy bi si 2 x2 0 x4 x5))] ++ (shB cy qq bi si f)) = ([sO cy hh a kk dd b w ee qq ik, ia cy (hh 1) 7 (fnd C (cCopy bi si 2 x2 0 x4 x5))] ++ (shB cy qq bi si (if cCopy bi si 2 x2 0 x4 x5 = 7 then va_up f (bstN 0) (va_cpy (f (bstN 2)) (f (bstN 0)) (bstN x2) (bstN x4) (bstN x5)) else f))) := congrArg (fun z9 => [sO cy hh a kk dd b w ee qq ik, ia cy (hh 1) 7 (fnd C (cCopy bi si 2 x2 0 x4 x5))] ++ (shB cy qq bi si z9)) (show f = (if cCopy bi si 2 x2 0 x4 x5 = 7 then va_up f (bstN 0) (va_cpy (f (bstN 2)) (f (bstN 0)) (bstN x2) (bstN x4) (bstN x5)) else f) from (if_neg (fun z9 => absurd (hcd.symm.trans z9) (by decide))).symm)
                  replace hP4 := (congrArg (fun z9 => va_P D vwCl z9 _) hq9).mp hP4
                  replace hD4 := (congrArg (fun z9 => va_D _ z9) hq9).mp hD4
                  clear hq9
                  refine re_i () hx hb hr hlocks hP4 hD4 hS4 dX6_copy_107 ?_
                  exact (ans_f hcd (by decide) rfl)
                · refine lv_aload hx hb dX6_copy_90 (lv_at hl2 0 rfl) ?_
                  refine lv_iload hx hb dX6_copy_92 (lv_at hl2 6 rfl) ?_
                  refine lv_iload hx hb dX6_copy_94 (lv_at hl2 7 rfl) ?_
                  refine rV_i (wc := [hO cy (qq 1) (qq 5) (bi 0) (si 0), la cy (qq 5) 40 (f 0)]) (rest := []) hx hb hml hown hw hG hK hP3 hS3 hA hl2 kc_X2_hasRow kw_4_12 [.int x4, .int x5] (c_X2_hasRow l D cy G H3.size (qq 1) (qq 5) (bi 0) (si 0) (f 0) x4 x5) [3, 7] rfl 0 rfl rfl rfl rfl rfl (Nat.le_of_ble_eq_true rfl) ⟨Nat.le_of_ble_eq_true rfl, Nat.le_of_ble_eq_true rfl⟩ dX6_copy_96 ⟨Nat.le_of_ble_eq_true rfl, Nat.le_of_ble_eq_true rfl⟩ (fun r_96 H4 locs4 hr_96 hP4 hS4 => ?_)
                  have hD4 := hD3
                  clear hP3 hD3 hS3 locs3 H3
                  subst hr_96
                  refine lb_ne (tgt := 108) hx hb dX6_copy_99 (by decide) (fun c_99 => ?_) (fun c_99 => ?_)
                  · have h8 := c_87
                    rw [(hso 2 (by decide)).1] at h8
                    have h9 := c_99
                    rw [(hso 0 (by decide)).1] at h9
                    obtain ⟨a1, n1, hab, rfl, rfl⟩ := row_at (by omega) h8
                    obtain ⟨a2, n2, hab2, rfl, e4⟩ := row_at (by omega) h9
                    obtain rfl : n1 = n2 := (nI_eq (by omega) (by omega)).mp e4
                    have hba1 : bstN (nI a1) = a1 := bst_n (by omega)
                    have hba2 : bstN (nI a2) = a2 := bst_n (by omega)
                    have hbn : bstN (nI n1) = n1 := bst_n (by omega)
                    refine lv_aload hx hb dX6_copy_108 (lv_at hl2 1 rfl) ?_
                    refine va_get (D := D) (ci := 2) (v := .ref (qq 7)) (C := RX2) (T := TX2) (N := 3) hx hb hw iX2 hown hK hP4 5 rfl rfl 0 (by decide) (hw _ kw_2_14) (fun _ h9 => h9) rfl dX6_copy_110 ?_
                    refine lv_iload_n hx hb dX6_copy_113 rfl (lv_at hl2 4 rfl) ?_
                    refine lv_aload hx hb dX6_copy_114 (lv_at hl2 0 rfl) ?_
                    refine va_get (D := D) (ci := 2) (v := .ref (qq 5)) (C := RX2) (T := TX2) (N := 3) hx hb hw iX2 hown hK hP4 3 rfl rfl 0 (by decide) (hw _ kw_2_14) (fun _ h9 => h9) rfl dX6_copy_116 ?_
                    refine lv_iload hx hb dX6_copy_119 (lv_at hl2 6 rfl) ?_
                    refine lv_iload hx hb dX6_copy_121 (lv_at hl2 7 rfl) ?_
                    refine acpL (f := f 2) (g := f 0) (ws' := [sO cy hh a kk dd b w ee qq ik, ia cy (hh 1) 7 C, qsB cy qq, hO cy (qq 1) (qq 5) (bi 0) (si 0), hO cy (qq 2) (qq 6) (bi 1) (si 1), hO cy (qq 3) (qq 7) (bi 2) (si 2), hO cy (qq 4) (qq 8) (bi 3) (si 3), la cy (qq 5) 40 (va_cpy (f 2) (f 0) a1 a2 n1), la cy (qq 6) 40 (f 1), la cy (qq 7) 40 (f 2), la cy (qq 8) 40 (f 3)]) hx hb hml hl2 hw hown kw_4_16 kw_2_162 kw_2_161 kw_1_9 hK hP4 hD4 hS4 9 7 1 rfl rfl rfl a1 a2 n1 rfl rfl rfl (by omega) (by omega) (by omega) (by first | decide | omega) (by first | decide | omega) rfl (Nat.le_of_ble_eq_true rfl) (Nat.le_of_ble_eq_true rfl) dX6_copy_123 (fun H5 locs5 hP5 hD5 hS5 => ?_)
                    clear hP4 hD4 hS4 locs4 H4
                    replace hP5 : va_P D vwCl ([sO cy hh a kk dd b w ee qq ik, ia cy (hh 1) 7 C] ++ (shB cy qq bi si (va_up f 0 (va_cpy (f 2) (f 0) a1 a2 n1)))) H5 := hP5
                    replace hD5 : va_D (va_A _ sz) ([sO cy hh a kk dd b w ee qq ik, ia cy (hh 1) 7 C] ++ (shB cy qq bi si (va_up f 0 (va_cpy (f 2) (f 0) a1 a2 n1)))) := hD5
                    refine lv_iload hx hb dX6_copy_126 (lv_at hl2 7 rfl) ?_
                    have hcd : cCopy bi si 2 (nI a1) 0 (nI a2) (nI n1) = 7 := by unfold cCopy; clear hx hb hml hown hr hlocks hw hsz hA hG hK hP5 hD5 hS5 hl2; grind
                    have hq9 : ([sO cy hh a kk dd b w ee qq ik, ia cy (hh 1) 7 C] ++ (shB cy qq bi si (va_up f 0 (va_cpy (f 2) (f 0) a1 a2 n1)))) = ([sO cy hh a kk dd b w ee qq ik, ia cy (hh 1) 7 (fnd C (cCopy bi si 2 (nI a1) 0 (nI a2) (nI n1)))] ++ (shB cy qq bi si (va_up f 0 (va_cpy (f 2) (f 0) a1 a2 n1)))) := congrArg (fun z9 => [sO cy hh a kk dd b w ee qq ik, ia cy (hh 1) 7 z9] ++ (shB cy qq bi si (va_up f 0 (va_cpy (f 2) (f 0) a1 a2 n1)))) (show C = (fnd C (cCopy bi si 2 (nI a1) 0 (nI a2) (nI n1))) from fnd_o hcd)
                    replace hP5 := (congrArg (fun z9 => va_P D vwCl z9 _) hq9).mp hP5
                    replace hD5 := (congrArg (fun z9 => va_D _ z9) hq9).mp hD5
                    clear hq9
                    have hq9 : ([sO cy hh a kk dd b w ee qq ik, ia cy (hh 1) 7 (fnd C (cCopy bi si 2 (nI a1) 0 (nI a2) (nI n1)))] ++ (shB cy qq bi si (va_up f 0 (va_cpy (f 2) (f 0) a1 a2 n1)))) = ([sO cy hh a kk dd b w ee qq ik, ia cy (hh 1) 7 (fnd C (cCopy bi si 2 (nI a1) 0 (nI a2) (nI n1)))] ++ (shB cy qq bi si (if cCopy bi si 2 (nI a1) 0 (nI a2) (nI n1) = 7 then va_up f (bstN 0) (va_cpy (f (bstN 2)) (f (bstN 0)) (bstN (nI a1)) (bstN (nI a2)) (bstN (nI n1))) else f))) := congrArg (fun z9 => [sO cy hh a kk dd b w ee qq ik, ia cy (hh 1) 7 (fnd C (cCopy bi si 2 (nI a1) 0 (nI a2) (nI n1)))] ++ (shB cy qq bi si z9)) (show (va_up f 0 (va_cpy (f 2) (f 0) a1 a2 n1)) = (if cCopy bi si 2 (nI a1) 0 (nI a2) (nI n1) = 7 then va_up f (bstN 0) (va_cpy (f (bstN 2)) (f (bstN 0)) (bstN (nI a1)) (bstN (nI a2)) (bstN (nI n1))) else f) from by rw [if_pos hcd]; simp only [hba1, hba2, hbn, hb0, hb1, hb2, hb3])
                    replace hP5 := (congrArg (fun z9 => va_P D vwCl z9 _) hq9).mp hP5
                    replace hD5 := (congrArg (fun z9 => va_D _ z9) hq9).mp hD5
                    clear hq9
                    refine re_i () hx hb hr hlocks hP5 hD5 hS5 dX6_copy_128 ?_
                    exact (ans_o hcd (rfl))
                  · replace hP4 : va_P D vwCl ([sO cy hh a kk dd b w ee qq ik, ia cy (hh 1) 7 C] ++ (shB cy qq bi si f)) H4 := hP4
                    replace hD4 : va_D (va_A _ sz) ([sO cy hh a kk dd b w ee qq ik, ia cy (hh 1) 7 C] ++ (shB cy qq bi si f)) := hD4
                    refine lv_aload_n hx hb dX6_copy_102 rfl (lv_at hl2 2 rfl) ?_
                    refine lv_iconst (v := 0) hx hb dX6_copy_103 (by decide) ?_
                    refine cV_i (wc := [sO cy hh a kk dd b w ee qq ik, ia cy (hh 1) 7 C]) (wr := shB cy qq bi si f) (rest := []) hx hb hml hown hw hG hK hP4 hD4 hS4 hA hl2 kc_X6_find kw_2_59 [.int 0] (c_X6_find l D cy G H4.size hh a kk dd b w ee qq ik C 0 (by first | omega | assumption)) [0, 1] [2, 3, 4, 5, 6, 7, 8, 9, 10] rfl rfl rfl rfl rfl 0 rfl rfl rfl rfl rfl (Nat.le_of_ble_eq_true rfl) ⟨Nat.le_of_ble_eq_true rfl, Nat.le_of_ble_eq_true rfl⟩ dX6_copy_104 ⟨Nat.le_of_ble_eq_true rfl, Nat.le_of_ble_eq_true rfl⟩ (fun r_104 u9 H5 locs5 hu9 hP5 hD5 hS5 => ?_)
                    clear hP4 hD4 hS4 locs4 H4
                    have hr_104 := hu9
                    replace hP5 : va_P D vwCl (shB cy qq bi si f ++ ([sO cy hh a kk dd b w ee qq ik, ia cy (hh 1) 7 (upd C 0 (C 0 + 1))])) H5 := hP5
                    replace hD5 : va_D (va_A _ sz) (shB cy qq bi si f ++ ([sO cy hh a kk dd b w ee qq ik, ia cy (hh 1) 7 (upd C 0 (C 0 + 1))])) := hD5
                    replace hP5 := hP5.sub (ws' := [sO cy hh a kk dd b w ee qq ik, ia cy (hh 1) 7 (upd C 0 (C 0 + 1))] ++ (shB cy qq bi si f)) [9, 10, 0, 1, 2, 3, 4, 5, 6, 7, 8] rfl
                    replace hD5 := hD5.sub (ws' := [sO cy hh a kk dd b w ee qq ik, ia cy (hh 1) 7 (upd C 0 (C 0 + 1))] ++ (shB cy qq bi si f)) [9, 10, 0, 1, 2, 3, 4, 5, 6, 7, 8] (by decide) rfl
                    subst hr_104
                    have hcd : cCopy bi si 2 x2 0 x4 x5 = 0 := by unfold cCopy; clear hx hb hml hown hr hlocks hw hsz hA hG hK hP5 hD5 hS5 hl2; grind
                    have hq9 : ([sO cy hh a kk dd b w ee qq ik, ia cy (hh 1) 7 (upd C 0 (C 0 + 1))] ++ (shB cy qq bi si f)) = ([sO cy hh a kk dd b w ee qq ik, ia cy (hh 1) 7 (fnd C (cCopy bi si 2 x2 0 x4 x5))] ++ (shB cy qq bi si f)) := congrArg (fun z9 => [sO cy hh a kk dd b w ee qq ik, ia cy (hh 1) 7 z9] ++ (shB cy qq bi si f)) (show (upd C 0 (C 0 + 1)) = (fnd C (cCopy bi si 2 x2 0 x4 x5)) from fnd_f hcd (by decide))
                    replace hP5 := (congrArg (fun z9 => va_P D vwCl z9 _) hq9).mp hP5
                    replace hD5 := (congrArg (fun z9 => va_D _ z9) hq9).mp hD5
                    clear hq9
                    have hq9 : ([sO cy hh a kk dd b w ee qq ik, ia cy (hh 1) 7 (fnd C (cCopy bi si 2 x2 0 x4 x5))] ++ (shB cy qq bi si f)) = ([sO cy hh a kk dd b w ee qq ik, ia cy (hh 1) 7 (fnd C (cCopy bi si 2 x2 0 x4 x5))] ++ (shB cy qq bi si (if cCopy bi si 2 x2 0 x4 x5 = 7 then va_up f (bstN 0) (va_cpy (f (bstN 2)) (f (bstN 0)) (bstN x2) (bstN x4) (bstN x5)) else f))) := congrArg (fun z9 => [sO cy hh a kk dd b w ee qq ik, ia cy (hh 1) 7 (fnd C (cCopy bi si 2 x2 0 x4 x5))] ++ (shB cy qq bi si z9)) (show f = (if cCopy bi si 2 x2 0 x4 x5 = 7 then va_up f (bstN 0) (va_cpy (f (bstN 2)) (f (bstN 0)) (bstN x2) (bstN x4) (bstN x5)) else f) from (if_neg (fun z9 => absurd (hcd.symm.trans z9) (by decide))).symm)
                    replace hP5 := (congrArg (fun z9 => va_P D vwCl z9 _) hq9).mp hP5
                    replace hD5 := (congrArg (fun z9 => va_D _ z9) hq9).mp hD5
                    clear hq9
                    refine re_i () hx hb hr hlocks hP5 hD5 hS5 dX6_copy_107 ?_
                    exact (ans_f hcd (by decide) rfl)
              · replace hP2 : va_P D vwCl ([sO cy hh a kk dd b w ee qq ik, ia cy (hh 1) 7 C] ++ (shB cy qq bi si f)) H2 := hP2
                replace hD2 : va_D (va_A _ sz) ([sO cy hh a kk dd b w ee qq ik, ia cy (hh 1) 7 C] ++ (shB cy qq bi si f)) := hD2
                refine lv_aload_n hx hb dX6_copy_73 rfl (lv_at hl2 2 rfl) ?_
                refine lv_iconst (v := 2) hx hb dX6_copy_74 (by decide) ?_
                refine cV_i (wc := [sO cy hh a kk dd b w ee qq ik, ia cy (hh 1) 7 C]) (wr := shB cy qq bi si f) (rest := []) hx hb hml hown hw hG hK hP2 hD2 hS2 hA hl2 kc_X6_find kw_2_59 [.int 2] (c_X6_find l D cy G H2.size hh a kk dd b w ee qq ik C 2 (by first | omega | assumption)) [0, 1] [2, 3, 4, 5, 6, 7, 8, 9, 10] rfl rfl rfl rfl rfl 0 rfl rfl rfl rfl rfl (Nat.le_of_ble_eq_true rfl) ⟨Nat.le_of_ble_eq_true rfl, Nat.le_of_ble_eq_true rfl⟩ dX6_copy_75 ⟨Nat.le_of_ble_eq_true rfl, Nat.le_of_ble_eq_true rfl⟩ (fun r_75 u9 H3 locs3 hu9 hP3 hD3 hS3 => ?_)
                clear hP2 hD2 hS2 locs2 H2
                have hr_75 := hu9
                replace hP3 : va_P D vwCl (shB cy qq bi si f ++ ([sO cy hh a kk dd b w ee qq ik, ia cy (hh 1) 7 (upd C 2 (C 2 + 1))])) H3 := hP3
                replace hD3 : va_D (va_A _ sz) (shB cy qq bi si f ++ ([sO cy hh a kk dd b w ee qq ik, ia cy (hh 1) 7 (upd C 2 (C 2 + 1))])) := hD3
                replace hP3 := hP3.sub (ws' := [sO cy hh a kk dd b w ee qq ik, ia cy (hh 1) 7 (upd C 2 (C 2 + 1))] ++ (shB cy qq bi si f)) [9, 10, 0, 1, 2, 3, 4, 5, 6, 7, 8] rfl
                replace hD3 := hD3.sub (ws' := [sO cy hh a kk dd b w ee qq ik, ia cy (hh 1) 7 (upd C 2 (C 2 + 1))] ++ (shB cy qq bi si f)) [9, 10, 0, 1, 2, 3, 4, 5, 6, 7, 8] (by decide) rfl
                subst hr_75
                have hcd : cCopy bi si 2 x2 0 x4 x5 = 2 := by unfold cCopy; clear hx hb hml hown hr hlocks hw hsz hA hG hK hP3 hD3 hS3 hl2; grind
                have hq9 : ([sO cy hh a kk dd b w ee qq ik, ia cy (hh 1) 7 (upd C 2 (C 2 + 1))] ++ (shB cy qq bi si f)) = ([sO cy hh a kk dd b w ee qq ik, ia cy (hh 1) 7 (fnd C (cCopy bi si 2 x2 0 x4 x5))] ++ (shB cy qq bi si f)) := congrArg (fun z9 => [sO cy hh a kk dd b w ee qq ik, ia cy (hh 1) 7 z9] ++ (shB cy qq bi si f)) (show (upd C 2 (C 2 + 1)) = (fnd C (cCopy bi si 2 x2 0 x4 x5)) from fnd_f hcd (by decide))
                replace hP3 := (congrArg (fun z9 => va_P D vwCl z9 _) hq9).mp hP3
                replace hD3 := (congrArg (fun z9 => va_D _ z9) hq9).mp hD3
                clear hq9
                have hq9 : ([sO cy hh a kk dd b w ee qq ik, ia cy (hh 1) 7 (fnd C (cCopy bi si 2 x2 0 x4 x5))] ++ (shB cy qq bi si f)) = ([sO cy hh a kk dd b w ee qq ik, ia cy (hh 1) 7 (fnd C (cCopy bi si 2 x2 0 x4 x5))] ++ (shB cy qq bi si (if cCopy bi si 2 x2 0 x4 x5 = 7 then va_up f (bstN 0) (va_cpy (f (bstN 2)) (f (bstN 0)) (bstN x2) (bstN x4) (bstN x5)) else f))) := congrArg (fun z9 => [sO cy hh a kk dd b w ee qq ik, ia cy (hh 1) 7 (fnd C (cCopy bi si 2 x2 0 x4 x5))] ++ (shB cy qq bi si z9)) (show f = (if cCopy bi si 2 x2 0 x4 x5 = 7 then va_up f (bstN 0) (va_cpy (f (bstN 2)) (f (bstN 0)) (bstN x2) (bstN x4) (bstN x5)) else f) from (if_neg (fun z9 => absurd (hcd.symm.trans z9) (by decide))).symm)
                replace hP3 := (congrArg (fun z9 => va_P D vwCl z9 _) hq9).mp hP3
                replace hD3 := (congrArg (fun z9 => va_D _ z9) hq9).mp hD3
                clear hq9
                refine re_i () hx hb hr hlocks hP3 hD3 hS3 dX6_copy_78 ?_
                exact (ans_f hcd (by decide) rfl)
            · replace hP2 : va_P D vwCl ([sO cy hh a kk dd b w ee qq ik, ia cy (hh 1) 7 C] ++ (shB cy qq bi si f)) H2 := hP2
              replace hD2 : va_D (va_A _ sz) ([sO cy hh a kk dd b w ee qq ik, ia cy (hh 1) 7 C] ++ (shB cy qq bi si f)) := hD2
              refine lv_aload_n hx hb dX6_copy_54 rfl (lv_at hl2 2 rfl) ?_
              refine lv_iconst (v := 5) hx hb dX6_copy_55 (by decide) ?_
              refine cV_i (wc := [sO cy hh a kk dd b w ee qq ik, ia cy (hh 1) 7 C]) (wr := shB cy qq bi si f) (rest := []) hx hb hml hown hw hG hK hP2 hD2 hS2 hA hl2 kc_X6_find kw_2_59 [.int 5] (c_X6_find l D cy G H2.size hh a kk dd b w ee qq ik C 5 (by first | omega | assumption)) [0, 1] [2, 3, 4, 5, 6, 7, 8, 9, 10] rfl rfl rfl rfl rfl 0 rfl rfl rfl rfl rfl (Nat.le_of_ble_eq_true rfl) ⟨Nat.le_of_ble_eq_true rfl, Nat.le_of_ble_eq_true rfl⟩ dX6_copy_56 ⟨Nat.le_of_ble_eq_true rfl, Nat.le_of_ble_eq_true rfl⟩ (fun r_56 u9 H3 locs3 hu9 hP3 hD3 hS3 => ?_)
              clear hP2 hD2 hS2 locs2 H2
              have hr_56 := hu9
              replace hP3 : va_P D vwCl (shB cy qq bi si f ++ ([sO cy hh a kk dd b w ee qq ik, ia cy (hh 1) 7 (upd C 5 (C 5 + 1))])) H3 := hP3
              replace hD3 : va_D (va_A _ sz) (shB cy qq bi si f ++ ([sO cy hh a kk dd b w ee qq ik, ia cy (hh 1) 7 (upd C 5 (C 5 + 1))])) := hD3
              replace hP3 := hP3.sub (ws' := [sO cy hh a kk dd b w ee qq ik, ia cy (hh 1) 7 (upd C 5 (C 5 + 1))] ++ (shB cy qq bi si f)) [9, 10, 0, 1, 2, 3, 4, 5, 6, 7, 8] rfl
              replace hD3 := hD3.sub (ws' := [sO cy hh a kk dd b w ee qq ik, ia cy (hh 1) 7 (upd C 5 (C 5 + 1))] ++ (shB cy qq bi si f)) [9, 10, 0, 1, 2, 3, 4, 5, 6, 7, 8] (by decide) rfl
              subst hr_56
              have hcd : cCopy bi si 2 x2 0 x4 x5 = 5 := by unfold cCopy; clear hx hb hml hown hr hlocks hw hsz hA hG hK hP3 hD3 hS3 hl2; grind
              have hq9 : ([sO cy hh a kk dd b w ee qq ik, ia cy (hh 1) 7 (upd C 5 (C 5 + 1))] ++ (shB cy qq bi si f)) = ([sO cy hh a kk dd b w ee qq ik, ia cy (hh 1) 7 (fnd C (cCopy bi si 2 x2 0 x4 x5))] ++ (shB cy qq bi si f)) := congrArg (fun z9 => [sO cy hh a kk dd b w ee qq ik, ia cy (hh 1) 7 z9] ++ (shB cy qq bi si f)) (show (upd C 5 (C 5 + 1)) = (fnd C (cCopy bi si 2 x2 0 x4 x5)) from fnd_f hcd (by decide))
              replace hP3 := (congrArg (fun z9 => va_P D vwCl z9 _) hq9).mp hP3
              replace hD3 := (congrArg (fun z9 => va_D _ z9) hq9).mp hD3
              clear hq9
              have hq9 : ([sO cy hh a kk dd b w ee qq ik, ia cy (hh 1) 7 (fnd C (cCopy bi si 2 x2 0 x4 x5))] ++ (shB cy qq bi si f)) = ([sO cy hh a kk dd b w ee qq ik, ia cy (hh 1) 7 (fnd C (cCopy bi si 2 x2 0 x4 x5))] ++ (shB cy qq bi si (if cCopy bi si 2 x2 0 x4 x5 = 7 then va_up f (bstN 0) (va_cpy (f (bstN 2)) (f (bstN 0)) (bstN x2) (bstN x4) (bstN x5)) else f))) := congrArg (fun z9 => [sO cy hh a kk dd b w ee qq ik, ia cy (hh 1) 7 (fnd C (cCopy bi si 2 x2 0 x4 x5))] ++ (shB cy qq bi si z9)) (show f = (if cCopy bi si 2 x2 0 x4 x5 = 7 then va_up f (bstN 0) (va_cpy (f (bstN 2)) (f (bstN 0)) (bstN x2) (bstN x4) (bstN x5)) else f) from (if_neg (fun z9 => absurd (hcd.symm.trans z9) (by decide))).symm)
              replace hP3 := (congrArg (fun z9 => va_P D vwCl z9 _) hq9).mp hP3
              replace hD3 := (congrArg (fun z9 => va_D _ z9) hq9).mp hD3
              clear hq9
              refine re_i () hx hb hr hlocks hP3 hD3 hS3 dX6_copy_59 ?_
              exact (ans_f hcd (by decide) rfl)
        · refine lv_iload_n hx hb dX6_copy_34 rfl (lv_at hl1 4 rfl) ?_
          refine ald_q hx hb hK hP2 2 3 rfl rfl rfl 1 rfl (by first | omega | assumption) (by decide) (rfl) dX6_copy_35 ?_
          refine lv_astore (lv' := [(7, .ref (qq 2)), (6, .ref (qq 3)), (0, .ref (hh 0)), (1, .int 2), (2, .int x2), (3, .int 1), (4, .int x4), (5, .int x5)]) hx hb dX6_copy_36 hl1 (by decide) rfl (fun ls2 hl2 => ?_)
          clear hl1 ls1
          refine lv_aload hx hb dX6_copy_38 (lv_at hl2 1 rfl) ?_
          refine va_get (D := D) (ci := 2) (v := .int (bi 2)) (C := RX2) (T := TX2) (N := 3) hx hb hw iX2 hown hK hP2 5 rfl rfl 1 (by decide) (hw _ kw_2_16) (fun _ h9 => h9) rfl dX6_copy_40 ?_
          refine lv_if_eq (tgt := 54) hx hb dX6_copy_43 (by decide) (fun c_43 => ?_) (fun c_43 => ?_)
          · replace hP2 : va_P D vwCl ([sO cy hh a kk dd b w ee qq ik, ia cy (hh 1) 7 C] ++ (shB cy qq bi si f)) H2 := hP2
            replace hD2 : va_D (va_A _ sz) ([sO cy hh a kk dd b w ee qq ik, ia cy (hh 1) 7 C] ++ (shB cy qq bi si f)) := hD2
            refine lv_aload_n hx hb dX6_copy_54 rfl (lv_at hl2 2 rfl) ?_
            refine lv_iconst (v := 5) hx hb dX6_copy_55 (by decide) ?_
            refine cV_i (wc := [sO cy hh a kk dd b w ee qq ik, ia cy (hh 1) 7 C]) (wr := shB cy qq bi si f) (rest := []) hx hb hml hown hw hG hK hP2 hD2 hS2 hA hl2 kc_X6_find kw_2_59 [.int 5] (c_X6_find l D cy G H2.size hh a kk dd b w ee qq ik C 5 (by first | omega | assumption)) [0, 1] [2, 3, 4, 5, 6, 7, 8, 9, 10] rfl rfl rfl rfl rfl 0 rfl rfl rfl rfl rfl (Nat.le_of_ble_eq_true rfl) ⟨Nat.le_of_ble_eq_true rfl, Nat.le_of_ble_eq_true rfl⟩ dX6_copy_56 ⟨Nat.le_of_ble_eq_true rfl, Nat.le_of_ble_eq_true rfl⟩ (fun r_56 u9 H3 locs3 hu9 hP3 hD3 hS3 => ?_)
            clear hP2 hD2 hS2 locs2 H2
            have hr_56 := hu9
            replace hP3 : va_P D vwCl (shB cy qq bi si f ++ ([sO cy hh a kk dd b w ee qq ik, ia cy (hh 1) 7 (upd C 5 (C 5 + 1))])) H3 := hP3
            replace hD3 : va_D (va_A _ sz) (shB cy qq bi si f ++ ([sO cy hh a kk dd b w ee qq ik, ia cy (hh 1) 7 (upd C 5 (C 5 + 1))])) := hD3
            replace hP3 := hP3.sub (ws' := [sO cy hh a kk dd b w ee qq ik, ia cy (hh 1) 7 (upd C 5 (C 5 + 1))] ++ (shB cy qq bi si f)) [9, 10, 0, 1, 2, 3, 4, 5, 6, 7, 8] rfl
            replace hD3 := hD3.sub (ws' := [sO cy hh a kk dd b w ee qq ik, ia cy (hh 1) 7 (upd C 5 (C 5 + 1))] ++ (shB cy qq bi si f)) [9, 10, 0, 1, 2, 3, 4, 5, 6, 7, 8] (by decide) rfl
            subst hr_56
            have hcd : cCopy bi si 2 x2 1 x4 x5 = 5 := by unfold cCopy; clear hx hb hml hown hr hlocks hw hsz hA hG hK hP3 hD3 hS3 hl2; grind
            have hq9 : ([sO cy hh a kk dd b w ee qq ik, ia cy (hh 1) 7 (upd C 5 (C 5 + 1))] ++ (shB cy qq bi si f)) = ([sO cy hh a kk dd b w ee qq ik, ia cy (hh 1) 7 (fnd C (cCopy bi si 2 x2 1 x4 x5))] ++ (shB cy qq bi si f)) := congrArg (fun z9 => [sO cy hh a kk dd b w ee qq ik, ia cy (hh 1) 7 z9] ++ (shB cy qq bi si f)) (show (upd C 5 (C 5 + 1)) = (fnd C (cCopy bi si 2 x2 1 x4 x5)) from fnd_f hcd (by decide))
            replace hP3 := (congrArg (fun z9 => va_P D vwCl z9 _) hq9).mp hP3
            replace hD3 := (congrArg (fun z9 => va_D _ z9) hq9).mp hD3
            clear hq9
            have hq9 : ([sO cy hh a kk dd b w ee qq ik, ia cy (hh 1) 7 (fnd C (cCopy bi si 2 x2 1 x4 x5))] ++ (shB cy qq bi si f)) = ([sO cy hh a kk dd b w ee qq ik, ia cy (hh 1) 7 (fnd C (cCopy bi si 2 x2 1 x4 x5))] ++ (shB cy qq bi si (if cCopy bi si 2 x2 1 x4 x5 = 7 then va_up f (bstN 1) (va_cpy (f (bstN 2)) (f (bstN 1)) (bstN x2) (bstN x4) (bstN x5)) else f))) := congrArg (fun z9 => [sO cy hh a kk dd b w ee qq ik, ia cy (hh 1) 7 (fnd C (cCopy bi si 2 x2 1 x4 x5))] ++ (shB cy qq bi si z9)) (show f = (if cCopy bi si 2 x2 1 x4 x5 = 7 then va_up f (bstN 1) (va_cpy (f (bstN 2)) (f (bstN 1)) (bstN x2) (bstN x4) (bstN x5)) else f) from (if_neg (fun z9 => absurd (hcd.symm.trans z9) (by decide))).symm)
            replace hP3 := (congrArg (fun z9 => va_P D vwCl z9 _) hq9).mp hP3
            replace hD3 := (congrArg (fun z9 => va_D _ z9) hq9).mp hD3
            clear hq9
            refine re_i () hx hb hr hlocks hP3 hD3 hS3 dX6_copy_59 ?_
            exact (ans_f hcd (by decide) rfl)
          · refine lv_aload hx hb dX6_copy_46 (lv_at hl2 0 rfl) ?_
            refine va_get (D := D) (ci := 2) (v := .int (bi 1)) (C := RX2) (T := TX2) (N := 3) hx hb hw iX2 hown hK hP2 4 rfl rfl 1 (by decide) (hw _ kw_2_16) (fun _ h9 => h9) rfl dX6_copy_48 ?_
            refine lv_if_ne (tgt := 60) hx hb dX6_copy_51 (by decide) (fun c_51 => ?_) (fun c_51 => ?_)
            · refine lv_aload hx hb dX6_copy_60 (lv_at hl2 1 rfl) ?_
              refine va_get (D := D) (ci := 2) (v := .int (bi 2)) (C := RX2) (T := TX2) (N := 3) hx hb hw iX2 hown hK hP2 5 rfl rfl 1 (by decide) (hw _ kw_2_16) (fun _ h9 => h9) rfl dX6_copy_62 ?_
              refine lv_aload hx hb dX6_copy_65 (lv_at hl2 0 rfl) ?_
              refine va_get (D := D) (ci := 2) (v := .int (bi 1)) (C := RX2) (T := TX2) (N := 3) hx hb hw iX2 hown hK hP2 4 rfl rfl 1 (by decide) (hw _ kw_2_16) (fun _ h9 => h9) rfl dX6_copy_67 ?_
              refine lv_icmp_eq (tgt := 79) hx hb dX6_copy_70 (by decide) (fun c_70 => ?_) (fun c_70 => ?_)
              · refine lv_aload hx hb dX6_copy_79 (lv_at hl2 1 rfl) ?_
                refine lv_iload_n hx hb dX6_copy_81 rfl (lv_at hl2 4 rfl) ?_
                refine lv_iload hx hb dX6_copy_82 (lv_at hl2 7 rfl) ?_
                refine rV_i (wc := [hO cy (qq 3) (qq 7) (bi 2) (si 2), la cy (qq 7) 40 (f 2)]) (rest := []) hx hb hml hown hw hG hK hP2 hS2 hA hl2 kc_X2_hasRow kw_4_12 [.int x2, .int x5] (c_X2_hasRow l D cy G H2.size (qq 3) (qq 7) (bi 2) (si 2) (f 2) x2 x5) [5, 9] rfl 0 rfl rfl rfl rfl rfl (Nat.le_of_ble_eq_true rfl) ⟨Nat.le_of_ble_eq_true rfl, Nat.le_of_ble_eq_true rfl⟩ dX6_copy_84 ⟨Nat.le_of_ble_eq_true rfl, Nat.le_of_ble_eq_true rfl⟩ (fun r_84 H3 locs3 hr_84 hP3 hS3 => ?_)
                have hD3 := hD2
                clear hP2 hD2 hS2 locs2 H2
                subst hr_84
                refine lb_eq (tgt := 102) hx hb dX6_copy_87 (by decide) (fun c_87 => ?_) (fun c_87 => ?_)
                · replace hP3 : va_P D vwCl ([sO cy hh a kk dd b w ee qq ik, ia cy (hh 1) 7 C] ++ (shB cy qq bi si f)) H3 := hP3
                  replace hD3 : va_D (va_A _ sz) ([sO cy hh a kk dd b w ee qq ik, ia cy (hh 1) 7 C] ++ (shB cy qq bi si f)) := hD3
                  refine lv_aload_n hx hb dX6_copy_102 rfl (lv_at hl2 2 rfl) ?_
                  refine lv_iconst (v := 0) hx hb dX6_copy_103 (by decide) ?_
                  refine cV_i (wc := [sO cy hh a kk dd b w ee qq ik, ia cy (hh 1) 7 C]) (wr := shB cy qq bi si f) (rest := []) hx hb hml hown hw hG hK hP3 hD3 hS3 hA hl2 kc_X6_find kw_2_59 [.int 0] (c_X6_find l D cy G H3.size hh a kk dd b w ee qq ik C 0 (by first | omega | assumption)) [0, 1] [2, 3, 4, 5, 6, 7, 8, 9, 10] rfl rfl rfl rfl rfl 0 rfl rfl rfl rfl rfl (Nat.le_of_ble_eq_true rfl) ⟨Nat.le_of_ble_eq_true rfl, Nat.le_of_ble_eq_true rfl⟩ dX6_copy_104 ⟨Nat.le_of_ble_eq_true rfl, Nat.le_of_ble_eq_true rfl⟩ (fun r_104 u9 H4 locs4 hu9 hP4 hD4 hS4 => ?_)
                  clear hP3 hD3 hS3 locs3 H3
                  have hr_104 := hu9
                  replace hP4 : va_P D vwCl (shB cy qq bi si f ++ ([sO cy hh a kk dd b w ee qq ik, ia cy (hh 1) 7 (upd C 0 (C 0 + 1))])) H4 := hP4
                  replace hD4 : va_D (va_A _ sz) (shB cy qq bi si f ++ ([sO cy hh a kk dd b w ee qq ik, ia cy (hh 1) 7 (upd C 0 (C 0 + 1))])) := hD4
                  replace hP4 := hP4.sub (ws' := [sO cy hh a kk dd b w ee qq ik, ia cy (hh 1) 7 (upd C 0 (C 0 + 1))] ++ (shB cy qq bi si f)) [9, 10, 0, 1, 2, 3, 4, 5, 6, 7, 8] rfl
                  replace hD4 := hD4.sub (ws' := [sO cy hh a kk dd b w ee qq ik, ia cy (hh 1) 7 (upd C 0 (C 0 + 1))] ++ (shB cy qq bi si f)) [9, 10, 0, 1, 2, 3, 4, 5, 6, 7, 8] (by decide) rfl
                  subst hr_104
                  have hcd : cCopy bi si 2 x2 1 x4 x5 = 0 := by unfold cCopy; clear hx hb hml hown hr hlocks hw hsz hA hG hK hP4 hD4 hS4 hl2; grind
                  have hq9 : ([sO cy hh a kk dd b w ee qq ik, ia cy (hh 1) 7 (upd C 0 (C 0 + 1))] ++ (shB cy qq bi si f)) = ([sO cy hh a kk dd b w ee qq ik, ia cy (hh 1) 7 (fnd C (cCopy bi si 2 x2 1 x4 x5))] ++ (shB cy qq bi si f)) := congrArg (fun z9 => [sO cy hh a kk dd b w ee qq ik, ia cy (hh 1) 7 z9] ++ (shB cy qq bi si f)) (show (upd C 0 (C 0 + 1)) = (fnd C (cCopy bi si 2 x2 1 x4 x5)) from fnd_f hcd (by decide))
                  replace hP4 := (congrArg (fun z9 => va_P D vwCl z9 _) hq9).mp hP4
                  replace hD4 := (congrArg (fun z9 => va_D _ z9) hq9).mp hD4
                  clear hq9
                  have hq9 : ([sO cy hh a kk dd b w ee qq ik, ia cy (hh 1) 7 (fnd C (cCopy bi si 2 x2 1 x4 x5))] ++ (shB cy qq bi si f)) = ([sO cy hh a kk dd b w ee qq ik, ia cy (hh 1) 7 (fnd C (cCopy bi si 2 x2 1 x4 x5))] ++ (shB cy qq bi si (if cCopy bi si 2 x2 1 x4 x5 = 7 then va_up f (bstN 1) (va_cpy (f (bstN 2)) (f (bstN 1)) (bstN x2) (bstN x4) (bstN x5)) else f))) := congrArg (fun z9 => [sO cy hh a kk dd b w ee qq ik, ia cy (hh 1) 7 (fnd C (cCopy bi si 2 x2 1 x4 x5))] ++ (shB cy qq bi si z9)) (show f = (if cCopy bi si 2 x2 1 x4 x5 = 7 then va_up f (bstN 1) (va_cpy (f (bstN 2)) (f (bstN 1)) (bstN x2) (bstN x4) (bstN x5)) else f) from (if_neg (fun z9 => absurd (hcd.symm.trans z9) (by decide))).symm)
                  replace hP4 := (congrArg (fun z9 => va_P D vwCl z9 _) hq9).mp hP4
                  replace hD4 := (congrArg (fun z9 => va_D _ z9) hq9).mp hD4
                  clear hq9
                  refine re_i () hx hb hr hlocks hP4 hD4 hS4 dX6_copy_107 ?_
                  exact (ans_f hcd (by decide) rfl)
                · refine lv_aload hx hb dX6_copy_90 (lv_at hl2 0 rfl) ?_
                  refine lv_iload hx hb dX6_copy_92 (lv_at hl2 6 rfl) ?_
                  refine lv_iload hx hb dX6_copy_94 (lv_at hl2 7 rfl) ?_
                  refine rV_i (wc := [hO cy (qq 2) (qq 6) (bi 1) (si 1), la cy (qq 6) 40 (f 1)]) (rest := []) hx hb hml hown hw hG hK hP3 hS3 hA hl2 kc_X2_hasRow kw_4_12 [.int x4, .int x5] (c_X2_hasRow l D cy G H3.size (qq 2) (qq 6) (bi 1) (si 1) (f 1) x4 x5) [4, 8] rfl 0 rfl rfl rfl rfl rfl (Nat.le_of_ble_eq_true rfl) ⟨Nat.le_of_ble_eq_true rfl, Nat.le_of_ble_eq_true rfl⟩ dX6_copy_96 ⟨Nat.le_of_ble_eq_true rfl, Nat.le_of_ble_eq_true rfl⟩ (fun r_96 H4 locs4 hr_96 hP4 hS4 => ?_)
                  have hD4 := hD3
                  clear hP3 hD3 hS3 locs3 H3
                  subst hr_96
                  refine lb_ne (tgt := 108) hx hb dX6_copy_99 (by decide) (fun c_99 => ?_) (fun c_99 => ?_)
                  · have h8 := c_87
                    rw [(hso 2 (by decide)).1] at h8
                    have h9 := c_99
                    rw [(hso 1 (by decide)).1] at h9
                    obtain ⟨a1, n1, hab, rfl, rfl⟩ := row_at (by omega) h8
                    obtain ⟨a2, n2, hab2, rfl, e4⟩ := row_at (by omega) h9
                    obtain rfl : n1 = n2 := (nI_eq (by omega) (by omega)).mp e4
                    have hba1 : bstN (nI a1) = a1 := bst_n (by omega)
                    have hba2 : bstN (nI a2) = a2 := bst_n (by omega)
                    have hbn : bstN (nI n1) = n1 := bst_n (by omega)
                    refine lv_aload hx hb dX6_copy_108 (lv_at hl2 1 rfl) ?_
                    refine va_get (D := D) (ci := 2) (v := .ref (qq 7)) (C := RX2) (T := TX2) (N := 3) hx hb hw iX2 hown hK hP4 5 rfl rfl 0 (by decide) (hw _ kw_2_14) (fun _ h9 => h9) rfl dX6_copy_110 ?_
                    refine lv_iload_n hx hb dX6_copy_113 rfl (lv_at hl2 4 rfl) ?_
                    refine lv_aload hx hb dX6_copy_114 (lv_at hl2 0 rfl) ?_
                    refine va_get (D := D) (ci := 2) (v := .ref (qq 6)) (C := RX2) (T := TX2) (N := 3) hx hb hw iX2 hown hK hP4 4 rfl rfl 0 (by decide) (hw _ kw_2_14) (fun _ h9 => h9) rfl dX6_copy_116 ?_
                    refine lv_iload hx hb dX6_copy_119 (lv_at hl2 6 rfl) ?_
                    refine lv_iload hx hb dX6_copy_121 (lv_at hl2 7 rfl) ?_
                    refine acpL (f := f 2) (g := f 1) (ws' := [sO cy hh a kk dd b w ee qq ik, ia cy (hh 1) 7 C, qsB cy qq, hO cy (qq 1) (qq 5) (bi 0) (si 0), hO cy (qq 2) (qq 6) (bi 1) (si 1), hO cy (qq 3) (qq 7) (bi 2) (si 2), hO cy (qq 4) (qq 8) (bi 3) (si 3), la cy (qq 5) 40 (f 0), la cy (qq 6) 40 (va_cpy (f 2) (f 1) a1 a2 n1), la cy (qq 7) 40 (f 2), la cy (qq 8) 40 (f 3)]) hx hb hml hl2 hw hown kw_4_16 kw_2_162 kw_2_161 kw_1_9 hK hP4 hD4 hS4 9 8 1 rfl rfl rfl a1 a2 n1 rfl rfl rfl (by omega) (by omega) (by omega) (by first | decide | omega) (by first | decide | omega) rfl (Nat.le_of_ble_eq_true rfl) (Nat.le_of_ble_eq_true rfl) dX6_copy_123 (fun H5 locs5 hP5 hD5 hS5 => ?_)
                    clear hP4 hD4 hS4 locs4 H4
                    replace hP5 : va_P D vwCl ([sO cy hh a kk dd b w ee qq ik, ia cy (hh 1) 7 C] ++ (shB cy qq bi si (va_up f 1 (va_cpy (f 2) (f 1) a1 a2 n1)))) H5 := hP5
                    replace hD5 : va_D (va_A _ sz) ([sO cy hh a kk dd b w ee qq ik, ia cy (hh 1) 7 C] ++ (shB cy qq bi si (va_up f 1 (va_cpy (f 2) (f 1) a1 a2 n1)))) := hD5
                    refine lv_iload hx hb dX6_copy_126 (lv_at hl2 7 rfl) ?_
                    have hcd : cCopy bi si 2 (nI a1) 1 (nI a2) (nI n1) = 7 := by unfold cCopy; clear hx hb hml hown hr hlocks hw hsz hA hG hK hP5 hD5 hS5 hl2; grind
                    have hq9 : ([sO cy hh a kk dd b w ee qq ik, ia cy (hh 1) 7 C] ++ (shB cy qq bi si (va_up f 1 (va_cpy (f 2) (f 1) a1 a2 n1)))) = ([sO cy hh a kk dd b w ee qq ik, ia cy (hh 1) 7 (fnd C (cCopy bi si 2 (nI a1) 1 (nI a2) (nI n1)))] ++ (shB cy qq bi si (va_up f 1 (va_cpy (f 2) (f 1) a1 a2 n1)))) := congrArg (fun z9 => [sO cy hh a kk dd b w ee qq ik, ia cy (hh 1) 7 z9] ++ (shB cy qq bi si (va_up f 1 (va_cpy (f 2) (f 1) a1 a2 n1)))) (show C = (fnd C (cCopy bi si 2 (nI a1) 1 (nI a2) (nI n1))) from fnd_o hcd)
                    replace hP5 := (congrArg (fun z9 => va_P D vwCl z9 _) hq9).mp hP5
                    replace hD5 := (congrArg (fun z9 => va_D _ z9) hq9).mp hD5
                    clear hq9
                    have hq9 : ([sO cy hh a kk dd b w ee qq ik, ia cy (hh 1) 7 (fnd C (cCopy bi si 2 (nI a1) 1 (nI a2) (nI n1)))] ++ (shB cy qq bi si (va_up f 1 (va_cpy (f 2) (f 1) a1 a2 n1)))) = ([sO cy hh a kk dd b w ee qq ik, ia cy (hh 1) 7 (fnd C (cCopy bi si 2 (nI a1) 1 (nI a2) (nI n1)))] ++ (shB cy qq bi si (if cCopy bi si 2 (nI a1) 1 (nI a2) (nI n1) = 7 then va_up f (bstN 1) (va_cpy (f (bstN 2)) (f (bstN 1)) (bstN (nI a1)) (bstN (nI a2)) (bstN (nI n1))) else f))) := congrArg (fun z9 => [sO cy hh a kk dd b w ee qq ik, ia cy (hh 1) 7 (fnd C (cCopy bi si 2 (nI a1) 1 (nI a2) (nI n1)))] ++ (shB cy qq bi si z9)) (show (va_up f 1 (va_cpy (f 2) (f 1) a1 a2 n1)) = (if cCopy bi si 2 (nI a1) 1 (nI a2) (nI n1) = 7 then va_up f (bstN 1) (va_cpy (f (bstN 2)) (f (bstN 1)) (bstN (nI a1)) (bstN (nI a2)) (bstN (nI n1))) else f) from by rw [if_pos hcd]; simp only [hba1, hba2, hbn, hb0, hb1, hb2, hb3])
                    replace hP5 := (congrArg (fun z9 => va_P D vwCl z9 _) hq9).mp hP5
                    replace hD5 := (congrArg (fun z9 => va_D _ z9) hq9).mp hD5
                    clear hq9
                    refine re_i () hx hb hr hlocks hP5 hD5 hS5 dX6_copy_128 ?_
                    exact (ans_o hcd (rfl))
                  · replace hP4 : va_P D vwCl ([sO cy hh a kk dd b w ee qq ik, ia cy (hh 1) 7 C] ++ (shB cy qq bi si f)) H4 := hP4
                    replace hD4 : va_D (va_A _ sz) ([sO cy hh a kk dd b w ee qq ik, ia cy (hh 1) 7 C] ++ (shB cy qq bi si f)) := hD4
                    refine lv_aload_n hx hb dX6_copy_102 rfl (lv_at hl2 2 rfl) ?_
                    refine lv_iconst (v := 0) hx hb dX6_copy_103 (by decide) ?_
                    refine cV_i (wc := [sO cy hh a kk dd b w ee qq ik, ia cy (hh 1) 7 C]) (wr := shB cy qq bi si f) (rest := []) hx hb hml hown hw hG hK hP4 hD4 hS4 hA hl2 kc_X6_find kw_2_59 [.int 0] (c_X6_find l D cy G H4.size hh a kk dd b w ee qq ik C 0 (by first | omega | assumption)) [0, 1] [2, 3, 4, 5, 6, 7, 8, 9, 10] rfl rfl rfl rfl rfl 0 rfl rfl rfl rfl rfl (Nat.le_of_ble_eq_true rfl) ⟨Nat.le_of_ble_eq_true rfl, Nat.le_of_ble_eq_true rfl⟩ dX6_copy_104 ⟨Nat.le_of_ble_eq_true rfl, Nat.le_of_ble_eq_true rfl⟩ (fun r_104 u9 H5 locs5 hu9 hP5 hD5 hS5 => ?_)
                    clear hP4 hD4 hS4 locs4 H4
                    have hr_104 := hu9
                    replace hP5 : va_P D vwCl (shB cy qq bi si f ++ ([sO cy hh a kk dd b w ee qq ik, ia cy (hh 1) 7 (upd C 0 (C 0 + 1))])) H5 := hP5
                    replace hD5 : va_D (va_A _ sz) (shB cy qq bi si f ++ ([sO cy hh a kk dd b w ee qq ik, ia cy (hh 1) 7 (upd C 0 (C 0 + 1))])) := hD5
                    replace hP5 := hP5.sub (ws' := [sO cy hh a kk dd b w ee qq ik, ia cy (hh 1) 7 (upd C 0 (C 0 + 1))] ++ (shB cy qq bi si f)) [9, 10, 0, 1, 2, 3, 4, 5, 6, 7, 8] rfl
                    replace hD5 := hD5.sub (ws' := [sO cy hh a kk dd b w ee qq ik, ia cy (hh 1) 7 (upd C 0 (C 0 + 1))] ++ (shB cy qq bi si f)) [9, 10, 0, 1, 2, 3, 4, 5, 6, 7, 8] (by decide) rfl
                    subst hr_104
                    have hcd : cCopy bi si 2 x2 1 x4 x5 = 0 := by unfold cCopy; clear hx hb hml hown hr hlocks hw hsz hA hG hK hP5 hD5 hS5 hl2; grind
                    have hq9 : ([sO cy hh a kk dd b w ee qq ik, ia cy (hh 1) 7 (upd C 0 (C 0 + 1))] ++ (shB cy qq bi si f)) = ([sO cy hh a kk dd b w ee qq ik, ia cy (hh 1) 7 (fnd C (cCopy bi si 2 x2 1 x4 x5))] ++ (shB cy qq bi si f)) := congrArg (fun z9 => [sO cy hh a kk dd b w ee qq ik, ia cy (hh 1) 7 z9] ++ (shB cy qq bi si f)) (show (upd C 0 (C 0 + 1)) = (fnd C (cCopy bi si 2 x2 1 x4 x5)) from fnd_f hcd (by decide))
                    replace hP5 := (congrArg (fun z9 => va_P D vwCl z9 _) hq9).mp hP5
                    replace hD5 := (congrArg (fun z9 => va_D _ z9) hq9).mp hD5
                    clear hq9
                    have hq9 : ([sO cy hh a kk dd b w ee qq ik, ia cy (hh 1) 7 (fnd C (cCopy bi si 2 x2 1 x4 x5))] ++ (shB cy qq bi si f)) = ([sO cy hh a kk dd b w ee qq ik, ia cy (hh 1) 7 (fnd C (cCopy bi si 2 x2 1 x4 x5))] ++ (shB cy qq bi si (if cCopy bi si 2 x2 1 x4 x5 = 7 then va_up f (bstN 1) (va_cpy (f (bstN 2)) (f (bstN 1)) (bstN x2) (bstN x4) (bstN x5)) else f))) := congrArg (fun z9 => [sO cy hh a kk dd b w ee qq ik, ia cy (hh 1) 7 (fnd C (cCopy bi si 2 x2 1 x4 x5))] ++ (shB cy qq bi si z9)) (show f = (if cCopy bi si 2 x2 1 x4 x5 = 7 then va_up f (bstN 1) (va_cpy (f (bstN 2)) (f (bstN 1)) (bstN x2) (bstN x4) (bstN x5)) else f) from (if_neg (fun z9 => absurd (hcd.symm.trans z9) (by decide))).symm)
                    replace hP5 := (congrArg (fun z9 => va_P D vwCl z9 _) hq9).mp hP5
                    replace hD5 := (congrArg (fun z9 => va_D _ z9) hq9).mp hD5
                    clear hq9
                    refine re_i () hx hb hr hlocks hP5 hD5 hS5 dX6_copy_107 ?_
                    exact (ans_f hcd (by decide) rfl)
              · replace hP2 : va_P D vwCl ([sO cy hh a kk dd b w ee qq ik, ia cy (hh 1) 7 C] ++ (shB cy qq bi si f)) H2 := hP2
                replace hD2 : va_D (va_A _ sz) ([sO cy hh a kk dd b w ee qq ik, ia cy (hh 1) 7 C] ++ (shB cy qq bi si f)) := hD2
                refine lv_aload_n hx hb dX6_copy_73 rfl (lv_at hl2 2 rfl) ?_
                refine lv_iconst (v := 2) hx hb dX6_copy_74 (by decide) ?_
                refine cV_i (wc := [sO cy hh a kk dd b w ee qq ik, ia cy (hh 1) 7 C]) (wr := shB cy qq bi si f) (rest := []) hx hb hml hown hw hG hK hP2 hD2 hS2 hA hl2 kc_X6_find kw_2_59 [.int 2] (c_X6_find l D cy G H2.size hh a kk dd b w ee qq ik C 2 (by first | omega | assumption)) [0, 1] [2, 3, 4, 5, 6, 7, 8, 9, 10] rfl rfl rfl rfl rfl 0 rfl rfl rfl rfl rfl (Nat.le_of_ble_eq_true rfl) ⟨Nat.le_of_ble_eq_true rfl, Nat.le_of_ble_eq_true rfl⟩ dX6_copy_75 ⟨Nat.le_of_ble_eq_true rfl, Nat.le_of_ble_eq_true rfl⟩ (fun r_75 u9 H3 locs3 hu9 hP3 hD3 hS3 => ?_)
                clear hP2 hD2 hS2 locs2 H2
                have hr_75 := hu9
                replace hP3 : va_P D vwCl (shB cy qq bi si f ++ ([sO cy hh a kk dd b w ee qq ik, ia cy (hh 1) 7 (upd C 2 (C 2 + 1))])) H3 := hP3
                replace hD3 : va_D (va_A _ sz) (shB cy qq bi si f ++ ([sO cy hh a kk dd b w ee qq ik, ia cy (hh 1) 7 (upd C 2 (C 2 + 1))])) := hD3
                replace hP3 := hP3.sub (ws' := [sO cy hh a kk dd b w ee qq ik, ia cy (hh 1) 7 (upd C 2 (C 2 + 1))] ++ (shB cy qq bi si f)) [9, 10, 0, 1, 2, 3, 4, 5, 6, 7, 8] rfl
                replace hD3 := hD3.sub (ws' := [sO cy hh a kk dd b w ee qq ik, ia cy (hh 1) 7 (upd C 2 (C 2 + 1))] ++ (shB cy qq bi si f)) [9, 10, 0, 1, 2, 3, 4, 5, 6, 7, 8] (by decide) rfl
                subst hr_75
                have hcd : cCopy bi si 2 x2 1 x4 x5 = 2 := by unfold cCopy; clear hx hb hml hown hr hlocks hw hsz hA hG hK hP3 hD3 hS3 hl2; grind
                have hq9 : ([sO cy hh a kk dd b w ee qq ik, ia cy (hh 1) 7 (upd C 2 (C 2 + 1))] ++ (shB cy qq bi si f)) = ([sO cy hh a kk dd b w ee qq ik, ia cy (hh 1) 7 (fnd C (cCopy bi si 2 x2 1 x4 x5))] ++ (shB cy qq bi si f)) := congrArg (fun z9 => [sO cy hh a kk dd b w ee qq ik, ia cy (hh 1) 7 z9] ++ (shB cy qq bi si f)) (show (upd C 2 (C 2 + 1)) = (fnd C (cCopy bi si 2 x2 1 x4 x5)) from fnd_f hcd (by decide))
                replace hP3 := (congrArg (fun z9 => va_P D vwCl z9 _) hq9).mp hP3
                replace hD3 := (congrArg (fun z9 => va_D _ z9) hq9).mp hD3
                clear hq9
                have hq9 : ([sO cy hh a kk dd b w ee qq ik, ia cy (hh 1) 7 (fnd C (cCopy bi si 2 x2 1 x4 x5))] ++ (shB cy qq bi si f)) = ([sO cy hh a kk dd b w ee qq ik, ia cy (hh 1) 7 (fnd C (cCopy bi si 2 x2 1 x4 x5))] ++ (shB cy qq bi si (if cCopy bi si 2 x2 1 x4 x5 = 7 then va_up f (bstN 1) (va_cpy (f (bstN 2)) (f (bstN 1)) (bstN x2) (bstN x4) (bstN x5)) else f))) := congrArg (fun z9 => [sO cy hh a kk dd b w ee qq ik, ia cy (hh 1) 7 (fnd C (cCopy bi si 2 x2 1 x4 x5))] ++ (shB cy qq bi si z9)) (show f = (if cCopy bi si 2 x2 1 x4 x5 = 7 then va_up f (bstN 1) (va_cpy (f (bstN 2)) (f (bstN 1)) (bstN x2) (bstN x4) (bstN x5)) else f) from (if_neg (fun z9 => absurd (hcd.symm.trans z9) (by decide))).symm)
                replace hP3 := (congrArg (fun z9 => va_P D vwCl z9 _) hq9).mp hP3
                replace hD3 := (congrArg (fun z9 => va_D _ z9) hq9).mp hD3
                clear hq9
                refine re_i () hx hb hr hlocks hP3 hD3 hS3 dX6_copy_78 ?_
                exact (ans_f hcd (by decide) rfl)
            · replace hP2 : va_P D vwCl ([sO cy hh a kk dd b w ee qq ik, ia cy (hh 1) 7 C] ++ (shB cy qq bi si f)) H2 := hP2
              replace hD2 : va_D (va_A _ sz) ([sO cy hh a kk dd b w ee qq ik, ia cy (hh 1) 7 C] ++ (shB cy qq bi si f)) := hD2
              refine lv_aload_n hx hb dX6_copy_54 rfl (lv_at hl2 2 rfl) ?_
              refine lv_iconst (v := 5) hx hb dX6_copy_55 (by decide) ?_
              refine cV_i (wc := [sO cy hh a kk dd b w ee qq ik, ia cy (hh 1) 7 C]) (wr := shB cy qq bi si f) (rest := []) hx hb hml hown hw hG hK hP2 hD2 hS2 hA hl2 kc_X6_find kw_2_59 [.int 5] (c_X6_find l D cy G H2.size hh a kk dd b w ee qq ik C 5 (by first | omega | assumption)) [0, 1] [2, 3, 4, 5, 6, 7, 8, 9, 10] rfl rfl rfl rfl rfl 0 rfl rfl rfl rfl rfl (Nat.le_of_ble_eq_true rfl) ⟨Nat.le_of_ble_eq_true rfl, Nat.le_of_ble_eq_true rfl⟩ dX6_copy_56 ⟨Nat.le_of_ble_eq_true rfl, Nat.le_of_ble_eq_true rfl⟩ (fun r_56 u9 H3 locs3 hu9 hP3 hD3 hS3 => ?_)
              clear hP2 hD2 hS2 locs2 H2
              have hr_56 := hu9
              replace hP3 : va_P D vwCl (shB cy qq bi si f ++ ([sO cy hh a kk dd b w ee qq ik, ia cy (hh 1) 7 (upd C 5 (C 5 + 1))])) H3 := hP3
              replace hD3 : va_D (va_A _ sz) (shB cy qq bi si f ++ ([sO cy hh a kk dd b w ee qq ik, ia cy (hh 1) 7 (upd C 5 (C 5 + 1))])) := hD3
              replace hP3 := hP3.sub (ws' := [sO cy hh a kk dd b w ee qq ik, ia cy (hh 1) 7 (upd C 5 (C 5 + 1))] ++ (shB cy qq bi si f)) [9, 10, 0, 1, 2, 3, 4, 5, 6, 7, 8] rfl
              replace hD3 := hD3.sub (ws' := [sO cy hh a kk dd b w ee qq ik, ia cy (hh 1) 7 (upd C 5 (C 5 + 1))] ++ (shB cy qq bi si f)) [9, 10, 0, 1, 2, 3, 4, 5, 6, 7, 8] (by decide) rfl
              subst hr_56
              have hcd : cCopy bi si 2 x2 1 x4 x5 = 5 := by unfold cCopy; clear hx hb hml hown hr hlocks hw hsz hA hG hK hP3 hD3 hS3 hl2; grind
              have hq9 : ([sO cy hh a kk dd b w ee qq ik, ia cy (hh 1) 7 (upd C 5 (C 5 + 1))] ++ (shB cy qq bi si f)) = ([sO cy hh a kk dd b w ee qq ik, ia cy (hh 1) 7 (fnd C (cCopy bi si 2 x2 1 x4 x5))] ++ (shB cy qq bi si f)) := congrArg (fun z9 => [sO cy hh a kk dd b w ee qq ik, ia cy (hh 1) 7 z9] ++ (shB cy qq bi si f)) (show (upd C 5 (C 5 + 1)) = (fnd C (cCopy bi si 2 x2 1 x4 x5)) from fnd_f hcd (by decide))
              replace hP3 := (congrArg (fun z9 => va_P D vwCl z9 _) hq9).mp hP3
              replace hD3 := (congrArg (fun z9 => va_D _ z9) hq9).mp hD3
              clear hq9
              have hq9 : ([sO cy hh a kk dd b w ee qq ik, ia cy (hh 1) 7 (fnd C (cCopy bi si 2 x2 1 x4 x5))] ++ (shB cy qq bi si f)) = ([sO cy hh a kk dd b w ee qq ik, ia cy (hh 1) 7 (fnd C (cCopy bi si 2 x2 1 x4 x5))] ++ (shB cy qq bi si (if cCopy bi si 2 x2 1 x4 x5 = 7 then va_up f (bstN 1) (va_cpy (f (bstN 2)) (f (bstN 1)) (bstN x2) (bstN x4) (bstN x5)) else f))) := congrArg (fun z9 => [sO cy hh a kk dd b w ee qq ik, ia cy (hh 1) 7 (fnd C (cCopy bi si 2 x2 1 x4 x5))] ++ (shB cy qq bi si z9)) (show f = (if cCopy bi si 2 x2 1 x4 x5 = 7 then va_up f (bstN 1) (va_cpy (f (bstN 2)) (f (bstN 1)) (bstN x2) (bstN x4) (bstN x5)) else f) from (if_neg (fun z9 => absurd (hcd.symm.trans z9) (by decide))).symm)
              replace hP3 := (congrArg (fun z9 => va_P D vwCl z9 _) hq9).mp hP3
              replace hD3 := (congrArg (fun z9 => va_D _ z9) hq9).mp hD3
              clear hq9
              refine re_i () hx hb hr hlocks hP3 hD3 hS3 dX6_copy_59 ?_
              exact (ans_f hcd (by decide) rfl)
        · refine lv_iload_n hx hb dX6_copy_34 rfl (lv_at hl1 4 rfl) ?_
          refine ald_q hx hb hK hP2 2 3 rfl rfl rfl 2 rfl (by first | omega | assumption) (by decide) (rfl) dX6_copy_35 ?_
          refine lv_astore (lv' := [(7, .ref (qq 3)), (6, .ref (qq 3)), (0, .ref (hh 0)), (1, .int 2), (2, .int x2), (3, .int 2), (4, .int x4), (5, .int x5)]) hx hb dX6_copy_36 hl1 (by decide) rfl (fun ls2 hl2 => ?_)
          clear hl1 ls1
          refine lv_aload hx hb dX6_copy_38 (lv_at hl2 1 rfl) ?_
          refine va_get (D := D) (ci := 2) (v := .int (bi 2)) (C := RX2) (T := TX2) (N := 3) hx hb hw iX2 hown hK hP2 5 rfl rfl 1 (by decide) (hw _ kw_2_16) (fun _ h9 => h9) rfl dX6_copy_40 ?_
          refine lv_if_eq (tgt := 54) hx hb dX6_copy_43 (by decide) (fun c_43 => ?_) (fun c_43 => ?_)
          · replace hP2 : va_P D vwCl ([sO cy hh a kk dd b w ee qq ik, ia cy (hh 1) 7 C] ++ (shB cy qq bi si f)) H2 := hP2
            replace hD2 : va_D (va_A _ sz) ([sO cy hh a kk dd b w ee qq ik, ia cy (hh 1) 7 C] ++ (shB cy qq bi si f)) := hD2
            refine lv_aload_n hx hb dX6_copy_54 rfl (lv_at hl2 2 rfl) ?_
            refine lv_iconst (v := 5) hx hb dX6_copy_55 (by decide) ?_
            refine cV_i (wc := [sO cy hh a kk dd b w ee qq ik, ia cy (hh 1) 7 C]) (wr := shB cy qq bi si f) (rest := []) hx hb hml hown hw hG hK hP2 hD2 hS2 hA hl2 kc_X6_find kw_2_59 [.int 5] (c_X6_find l D cy G H2.size hh a kk dd b w ee qq ik C 5 (by first | omega | assumption)) [0, 1] [2, 3, 4, 5, 6, 7, 8, 9, 10] rfl rfl rfl rfl rfl 0 rfl rfl rfl rfl rfl (Nat.le_of_ble_eq_true rfl) ⟨Nat.le_of_ble_eq_true rfl, Nat.le_of_ble_eq_true rfl⟩ dX6_copy_56 ⟨Nat.le_of_ble_eq_true rfl, Nat.le_of_ble_eq_true rfl⟩ (fun r_56 u9 H3 locs3 hu9 hP3 hD3 hS3 => ?_)
            clear hP2 hD2 hS2 locs2 H2
            have hr_56 := hu9
            replace hP3 : va_P D vwCl (shB cy qq bi si f ++ ([sO cy hh a kk dd b w ee qq ik, ia cy (hh 1) 7 (upd C 5 (C 5 + 1))])) H3 := hP3
            replace hD3 : va_D (va_A _ sz) (shB cy qq bi si f ++ ([sO cy hh a kk dd b w ee qq ik, ia cy (hh 1) 7 (upd C 5 (C 5 + 1))])) := hD3
            replace hP3 := hP3.sub (ws' := [sO cy hh a kk dd b w ee qq ik, ia cy (hh 1) 7 (upd C 5 (C 5 + 1))] ++ (shB cy qq bi si f)) [9, 10, 0, 1, 2, 3, 4, 5, 6, 7, 8] rfl
            replace hD3 := hD3.sub (ws' := [sO cy hh a kk dd b w ee qq ik, ia cy (hh 1) 7 (upd C 5 (C 5 + 1))] ++ (shB cy qq bi si f)) [9, 10, 0, 1, 2, 3, 4, 5, 6, 7, 8] (by decide) rfl
            subst hr_56
            have hcd : cCopy bi si 2 x2 2 x4 x5 = 5 := by unfold cCopy; clear hx hb hml hown hr hlocks hw hsz hA hG hK hP3 hD3 hS3 hl2; grind
            have hq9 : ([sO cy hh a kk dd b w ee qq ik, ia cy (hh 1) 7 (upd C 5 (C 5 + 1))] ++ (shB cy qq bi si f)) = ([sO cy hh a kk dd b w ee qq ik, ia cy (hh 1) 7 (fnd C (cCopy bi si 2 x2 2 x4 x5))] ++ (shB cy qq bi si f)) := congrArg (fun z9 => [sO cy hh a kk dd b w ee qq ik, ia cy (hh 1) 7 z9] ++ (shB cy qq bi si f)) (show (upd C 5 (C 5 + 1)) = (fnd C (cCopy bi si 2 x2 2 x4 x5)) from fnd_f hcd (by decide))
            replace hP3 := (congrArg (fun z9 => va_P D vwCl z9 _) hq9).mp hP3
            replace hD3 := (congrArg (fun z9 => va_D _ z9) hq9).mp hD3
            clear hq9
            have hq9 : ([sO cy hh a kk dd b w ee qq ik, ia cy (hh 1) 7 (fnd C (cCopy bi si 2 x2 2 x4 x5))] ++ (shB cy qq bi si f)) = ([sO cy hh a kk dd b w ee qq ik, ia cy (hh 1) 7 (fnd C (cCopy bi si 2 x2 2 x4 x5))] ++ (shB cy qq bi si (if cCopy bi si 2 x2 2 x4 x5 = 7 then va_up f (bstN 2) (va_cpy (f (bstN 2)) (f (bstN 2)) (bstN x2) (bstN x4) (bstN x5)) else f))) := congrArg (fun z9 => [sO cy hh a kk dd b w ee qq ik, ia cy (hh 1) 7 (fnd C (cCopy bi si 2 x2 2 x4 x5))] ++ (shB cy qq bi si z9)) (show f = (if cCopy bi si 2 x2 2 x4 x5 = 7 then va_up f (bstN 2) (va_cpy (f (bstN 2)) (f (bstN 2)) (bstN x2) (bstN x4) (bstN x5)) else f) from (if_neg (fun z9 => absurd (hcd.symm.trans z9) (by decide))).symm)
            replace hP3 := (congrArg (fun z9 => va_P D vwCl z9 _) hq9).mp hP3
            replace hD3 := (congrArg (fun z9 => va_D _ z9) hq9).mp hD3
            clear hq9
            refine re_i () hx hb hr hlocks hP3 hD3 hS3 dX6_copy_59 ?_
            exact (ans_f hcd (by decide) rfl)
          · refine lv_aload hx hb dX6_copy_46 (lv_at hl2 0 rfl) ?_
            refine va_get (D := D) (ci := 2) (v := .int (bi 2)) (C := RX2) (T := TX2) (N := 3) hx hb hw iX2 hown hK hP2 5 rfl rfl 1 (by decide) (hw _ kw_2_16) (fun _ h9 => h9) rfl dX6_copy_48 ?_
            refine lv_if_ne (tgt := 60) hx hb dX6_copy_51 (by decide) (fun c_51 => ?_) (fun c_51 => ?_)
            · refine lv_aload hx hb dX6_copy_60 (lv_at hl2 1 rfl) ?_
              refine va_get (D := D) (ci := 2) (v := .int (bi 2)) (C := RX2) (T := TX2) (N := 3) hx hb hw iX2 hown hK hP2 5 rfl rfl 1 (by decide) (hw _ kw_2_16) (fun _ h9 => h9) rfl dX6_copy_62 ?_
              refine lv_aload hx hb dX6_copy_65 (lv_at hl2 0 rfl) ?_
              refine va_get (D := D) (ci := 2) (v := .int (bi 2)) (C := RX2) (T := TX2) (N := 3) hx hb hw iX2 hown hK hP2 5 rfl rfl 1 (by decide) (hw _ kw_2_16) (fun _ h9 => h9) rfl dX6_copy_67 ?_
              refine lv_icmp_eq (tgt := 79) hx hb dX6_copy_70 (by decide) (fun c_70 => ?_) (fun c_70 => ?_)
              · refine lv_aload hx hb dX6_copy_79 (lv_at hl2 1 rfl) ?_
                refine lv_iload_n hx hb dX6_copy_81 rfl (lv_at hl2 4 rfl) ?_
                refine lv_iload hx hb dX6_copy_82 (lv_at hl2 7 rfl) ?_
                refine rV_i (wc := [hO cy (qq 3) (qq 7) (bi 2) (si 2), la cy (qq 7) 40 (f 2)]) (rest := []) hx hb hml hown hw hG hK hP2 hS2 hA hl2 kc_X2_hasRow kw_4_12 [.int x2, .int x5] (c_X2_hasRow l D cy G H2.size (qq 3) (qq 7) (bi 2) (si 2) (f 2) x2 x5) [5, 9] rfl 0 rfl rfl rfl rfl rfl (Nat.le_of_ble_eq_true rfl) ⟨Nat.le_of_ble_eq_true rfl, Nat.le_of_ble_eq_true rfl⟩ dX6_copy_84 ⟨Nat.le_of_ble_eq_true rfl, Nat.le_of_ble_eq_true rfl⟩ (fun r_84 H3 locs3 hr_84 hP3 hS3 => ?_)
                have hD3 := hD2
                clear hP2 hD2 hS2 locs2 H2
                subst hr_84
                refine lb_eq (tgt := 102) hx hb dX6_copy_87 (by decide) (fun c_87 => ?_) (fun c_87 => ?_)
                · replace hP3 : va_P D vwCl ([sO cy hh a kk dd b w ee qq ik, ia cy (hh 1) 7 C] ++ (shB cy qq bi si f)) H3 := hP3
                  replace hD3 : va_D (va_A _ sz) ([sO cy hh a kk dd b w ee qq ik, ia cy (hh 1) 7 C] ++ (shB cy qq bi si f)) := hD3
                  refine lv_aload_n hx hb dX6_copy_102 rfl (lv_at hl2 2 rfl) ?_
                  refine lv_iconst (v := 0) hx hb dX6_copy_103 (by decide) ?_
                  refine cV_i (wc := [sO cy hh a kk dd b w ee qq ik, ia cy (hh 1) 7 C]) (wr := shB cy qq bi si f) (rest := []) hx hb hml hown hw hG hK hP3 hD3 hS3 hA hl2 kc_X6_find kw_2_59 [.int 0] (c_X6_find l D cy G H3.size hh a kk dd b w ee qq ik C 0 (by first | omega | assumption)) [0, 1] [2, 3, 4, 5, 6, 7, 8, 9, 10] rfl rfl rfl rfl rfl 0 rfl rfl rfl rfl rfl (Nat.le_of_ble_eq_true rfl) ⟨Nat.le_of_ble_eq_true rfl, Nat.le_of_ble_eq_true rfl⟩ dX6_copy_104 ⟨Nat.le_of_ble_eq_true rfl, Nat.le_of_ble_eq_true rfl⟩ (fun r_104 u9 H4 locs4 hu9 hP4 hD4 hS4 => ?_)
                  clear hP3 hD3 hS3 locs3 H3
                  have hr_104 := hu9
                  replace hP4 : va_P D vwCl (shB cy qq bi si f ++ ([sO cy hh a kk dd b w ee qq ik, ia cy (hh 1) 7 (upd C 0 (C 0 + 1))])) H4 := hP4
                  replace hD4 : va_D (va_A _ sz) (shB cy qq bi si f ++ ([sO cy hh a kk dd b w ee qq ik, ia cy (hh 1) 7 (upd C 0 (C 0 + 1))])) := hD4
                  replace hP4 := hP4.sub (ws' := [sO cy hh a kk dd b w ee qq ik, ia cy (hh 1) 7 (upd C 0 (C 0 + 1))] ++ (shB cy qq bi si f)) [9, 10, 0, 1, 2, 3, 4, 5, 6, 7, 8] rfl
                  replace hD4 := hD4.sub (ws' := [sO cy hh a kk dd b w ee qq ik, ia cy (hh 1) 7 (upd C 0 (C 0 + 1))] ++ (shB cy qq bi si f)) [9, 10, 0, 1, 2, 3, 4, 5, 6, 7, 8] (by decide) rfl
                  subst hr_104
                  have hcd : cCopy bi si 2 x2 2 x4 x5 = 0 := by unfold cCopy; clear hx hb hml hown hr hlocks hw hsz hA hG hK hP4 hD4 hS4 hl2; grind
                  have hq9 : ([sO cy hh a kk dd b w ee qq ik, ia cy (hh 1) 7 (upd C 0 (C 0 + 1))] ++ (shB cy qq bi si f)) = ([sO cy hh a kk dd b w ee qq ik, ia cy (hh 1) 7 (fnd C (cCopy bi si 2 x2 2 x4 x5))] ++ (shB cy qq bi si f)) := congrArg (fun z9 => [sO cy hh a kk dd b w ee qq ik, ia cy (hh 1) 7 z9] ++ (shB cy qq bi si f)) (show (upd C 0 (C 0 + 1)) = (fnd C (cCopy bi si 2 x2 2 x4 x5)) from fnd_f hcd (by decide))
                  replace hP4 := (congrArg (fun z9 => va_P D vwCl z9 _) hq9).mp hP4
                  replace hD4 := (congrArg (fun z9 => va_D _ z9) hq9).mp hD4
                  clear hq9
                  have hq9 : ([sO cy hh a kk dd b w ee qq ik, ia cy (hh 1) 7 (fnd C (cCopy bi si 2 x2 2 x4 x5))] ++ (shB cy qq bi si f)) = ([sO cy hh a kk dd b w ee qq ik, ia cy (hh 1) 7 (fnd C (cCopy bi si 2 x2 2 x4 x5))] ++ (shB cy qq bi si (if cCopy bi si 2 x2 2 x4 x5 = 7 then va_up f (bstN 2) (va_cpy (f (bstN 2)) (f (bstN 2)) (bstN x2) (bstN x4) (bstN x5)) else f))) := congrArg (fun z9 => [sO cy hh a kk dd b w ee qq ik, ia cy (hh 1) 7 (fnd C (cCopy bi si 2 x2 2 x4 x5))] ++ (shB cy qq bi si z9)) (show f = (if cCopy bi si 2 x2 2 x4 x5 = 7 then va_up f (bstN 2) (va_cpy (f (bstN 2)) (f (bstN 2)) (bstN x2) (bstN x4) (bstN x5)) else f) from (if_neg (fun z9 => absurd (hcd.symm.trans z9) (by decide))).symm)
                  replace hP4 := (congrArg (fun z9 => va_P D vwCl z9 _) hq9).mp hP4
                  replace hD4 := (congrArg (fun z9 => va_D _ z9) hq9).mp hD4
                  clear hq9
                  refine re_i () hx hb hr hlocks hP4 hD4 hS4 dX6_copy_107 ?_
                  exact (ans_f hcd (by decide) rfl)
                · refine lv_aload hx hb dX6_copy_90 (lv_at hl2 0 rfl) ?_
                  refine lv_iload hx hb dX6_copy_92 (lv_at hl2 6 rfl) ?_
                  refine lv_iload hx hb dX6_copy_94 (lv_at hl2 7 rfl) ?_
                  refine rV_i (wc := [hO cy (qq 3) (qq 7) (bi 2) (si 2), la cy (qq 7) 40 (f 2)]) (rest := []) hx hb hml hown hw hG hK hP3 hS3 hA hl2 kc_X2_hasRow kw_4_12 [.int x4, .int x5] (c_X2_hasRow l D cy G H3.size (qq 3) (qq 7) (bi 2) (si 2) (f 2) x4 x5) [5, 9] rfl 0 rfl rfl rfl rfl rfl (Nat.le_of_ble_eq_true rfl) ⟨Nat.le_of_ble_eq_true rfl, Nat.le_of_ble_eq_true rfl⟩ dX6_copy_96 ⟨Nat.le_of_ble_eq_true rfl, Nat.le_of_ble_eq_true rfl⟩ (fun r_96 H4 locs4 hr_96 hP4 hS4 => ?_)
                  have hD4 := hD3
                  clear hP3 hD3 hS3 locs3 H3
                  subst hr_96
                  refine lb_ne (tgt := 108) hx hb dX6_copy_99 (by decide) (fun c_99 => ?_) (fun c_99 => ?_)
                  · have h8 := c_87
                    rw [(hso 2 (by decide)).1] at h8
                    have h9 := c_99
                    rw [(hso 2 (by decide)).1] at h9
                    obtain ⟨a1, n1, hab, rfl, rfl⟩ := row_at (by omega) h8
                    obtain ⟨a2, n2, hab2, rfl, e4⟩ := row_at (by omega) h9
                    obtain rfl : n1 = n2 := (nI_eq (by omega) (by omega)).mp e4
                    have hba1 : bstN (nI a1) = a1 := bst_n (by omega)
                    have hba2 : bstN (nI a2) = a2 := bst_n (by omega)
                    have hbn : bstN (nI n1) = n1 := bst_n (by omega)
                    refine lv_aload hx hb dX6_copy_108 (lv_at hl2 1 rfl) ?_
                    refine va_get (D := D) (ci := 2) (v := .ref (qq 7)) (C := RX2) (T := TX2) (N := 3) hx hb hw iX2 hown hK hP4 5 rfl rfl 0 (by decide) (hw _ kw_2_14) (fun _ h9 => h9) rfl dX6_copy_110 ?_
                    refine lv_iload_n hx hb dX6_copy_113 rfl (lv_at hl2 4 rfl) ?_
                    refine lv_aload hx hb dX6_copy_114 (lv_at hl2 0 rfl) ?_
                    refine va_get (D := D) (ci := 2) (v := .ref (qq 7)) (C := RX2) (T := TX2) (N := 3) hx hb hw iX2 hown hK hP4 5 rfl rfl 0 (by decide) (hw _ kw_2_14) (fun _ h9 => h9) rfl dX6_copy_116 ?_
                    refine lv_iload hx hb dX6_copy_119 (lv_at hl2 6 rfl) ?_
                    refine lv_iload hx hb dX6_copy_121 (lv_at hl2 7 rfl) ?_
                    refine acpL (f := f 2) (g := f 2) (ws' := [sO cy hh a kk dd b w ee qq ik, ia cy (hh 1) 7 C, qsB cy qq, hO cy (qq 1) (qq 5) (bi 0) (si 0), hO cy (qq 2) (qq 6) (bi 1) (si 1), hO cy (qq 3) (qq 7) (bi 2) (si 2), hO cy (qq 4) (qq 8) (bi 3) (si 3), la cy (qq 5) 40 (f 0), la cy (qq 6) 40 (f 1), la cy (qq 7) 40 (va_cpy (f 2) (f 2) a1 a2 n1), la cy (qq 8) 40 (f 3)]) hx hb hml hl2 hw hown kw_4_16 kw_2_162 kw_2_161 kw_1_9 hK hP4 hD4 hS4 9 9 1 rfl rfl rfl a1 a2 n1 rfl rfl rfl (by omega) (by omega) (by omega) (by first | decide | omega) (by first | decide | omega) rfl (Nat.le_of_ble_eq_true rfl) (Nat.le_of_ble_eq_true rfl) dX6_copy_123 (fun H5 locs5 hP5 hD5 hS5 => ?_)
                    clear hP4 hD4 hS4 locs4 H4
                    replace hP5 : va_P D vwCl ([sO cy hh a kk dd b w ee qq ik, ia cy (hh 1) 7 C] ++ (shB cy qq bi si (va_up f 2 (va_cpy (f 2) (f 2) a1 a2 n1)))) H5 := hP5
                    replace hD5 : va_D (va_A _ sz) ([sO cy hh a kk dd b w ee qq ik, ia cy (hh 1) 7 C] ++ (shB cy qq bi si (va_up f 2 (va_cpy (f 2) (f 2) a1 a2 n1)))) := hD5
                    refine lv_iload hx hb dX6_copy_126 (lv_at hl2 7 rfl) ?_
                    have hcd : cCopy bi si 2 (nI a1) 2 (nI a2) (nI n1) = 7 := by unfold cCopy; clear hx hb hml hown hr hlocks hw hsz hA hG hK hP5 hD5 hS5 hl2; grind
                    have hq9 : ([sO cy hh a kk dd b w ee qq ik, ia cy (hh 1) 7 C] ++ (shB cy qq bi si (va_up f 2 (va_cpy (f 2) (f 2) a1 a2 n1)))) = ([sO cy hh a kk dd b w ee qq ik, ia cy (hh 1) 7 (fnd C (cCopy bi si 2 (nI a1) 2 (nI a2) (nI n1)))] ++ (shB cy qq bi si (va_up f 2 (va_cpy (f 2) (f 2) a1 a2 n1)))) := congrArg (fun z9 => [sO cy hh a kk dd b w ee qq ik, ia cy (hh 1) 7 z9] ++ (shB cy qq bi si (va_up f 2 (va_cpy (f 2) (f 2) a1 a2 n1)))) (show C = (fnd C (cCopy bi si 2 (nI a1) 2 (nI a2) (nI n1))) from fnd_o hcd)
                    replace hP5 := (congrArg (fun z9 => va_P D vwCl z9 _) hq9).mp hP5
                    replace hD5 := (congrArg (fun z9 => va_D _ z9) hq9).mp hD5
                    clear hq9
                    have hq9 : ([sO cy hh a kk dd b w ee qq ik, ia cy (hh 1) 7 (fnd C (cCopy bi si 2 (nI a1) 2 (nI a2) (nI n1)))] ++ (shB cy qq bi si (va_up f 2 (va_cpy (f 2) (f 2) a1 a2 n1)))) = ([sO cy hh a kk dd b w ee qq ik, ia cy (hh 1) 7 (fnd C (cCopy bi si 2 (nI a1) 2 (nI a2) (nI n1)))] ++ (shB cy qq bi si (if cCopy bi si 2 (nI a1) 2 (nI a2) (nI n1) = 7 then va_up f (bstN 2) (va_cpy (f (bstN 2)) (f (bstN 2)) (bstN (nI a1)) (bstN (nI a2)) (bstN (nI n1))) else f))) := congrArg (fun z9 => [sO cy hh a kk dd b w ee qq ik, ia cy (hh 1) 7 (fnd C (cCopy bi si 2 (nI a1) 2 (nI a2) (nI n1)))] ++ (shB cy qq bi si z9)) (show (va_up f 2 (va_cpy (f 2) (f 2) a1 a2 n1)) = (if cCopy bi si 2 (nI a1) 2 (nI a2) (nI n1) = 7 then va_up f (bstN 2) (va_cpy (f (bstN 2)) (f (bstN 2)) (bstN (nI a1)) (bstN (nI a2)) (bstN (nI n1))) else f) from by rw [if_pos hcd]; simp only [hba1, hba2, hbn, hb0, hb1, hb2, hb3])
                    replace hP5 := (congrArg (fun z9 => va_P D vwCl z9 _) hq9).mp hP5
                    replace hD5 := (congrArg (fun z9 => va_D _ z9) hq9).mp hD5
                    clear hq9
                    refine re_i () hx hb hr hlocks hP5 hD5 hS5 dX6_copy_128 ?_
                    exact (ans_o hcd (rfl))
                  · replace hP4 : va_P D vwCl ([sO cy hh a kk dd b w ee qq ik, ia cy (hh 1) 7 C] ++ (shB cy qq bi si f)) H4 := hP4
                    replace hD4 : va_D (va_A _ sz) ([sO cy hh a kk dd b w ee qq ik, ia cy (hh 1) 7 C] ++ (shB cy qq bi si f)) := hD4
                    refine lv_aload_n hx hb dX6_copy_102 rfl (lv_at hl2 2 rfl) ?_
                    refine lv_iconst (v := 0) hx hb dX6_copy_103 (by decide) ?_
                    refine cV_i (wc := [sO cy hh a kk dd b w ee qq ik, ia cy (hh 1) 7 C]) (wr := shB cy qq bi si f) (rest := []) hx hb hml hown hw hG hK hP4 hD4 hS4 hA hl2 kc_X6_find kw_2_59 [.int 0] (c_X6_find l D cy G H4.size hh a kk dd b w ee qq ik C 0 (by first | omega | assumption)) [0, 1] [2, 3, 4, 5, 6, 7, 8, 9, 10] rfl rfl rfl rfl rfl 0 rfl rfl rfl rfl rfl (Nat.le_of_ble_eq_true rfl) ⟨Nat.le_of_ble_eq_true rfl, Nat.le_of_ble_eq_true rfl⟩ dX6_copy_104 ⟨Nat.le_of_ble_eq_true rfl, Nat.le_of_ble_eq_true rfl⟩ (fun r_104 u9 H5 locs5 hu9 hP5 hD5 hS5 => ?_)
                    clear hP4 hD4 hS4 locs4 H4
                    have hr_104 := hu9
                    replace hP5 : va_P D vwCl (shB cy qq bi si f ++ ([sO cy hh a kk dd b w ee qq ik, ia cy (hh 1) 7 (upd C 0 (C 0 + 1))])) H5 := hP5
                    replace hD5 : va_D (va_A _ sz) (shB cy qq bi si f ++ ([sO cy hh a kk dd b w ee qq ik, ia cy (hh 1) 7 (upd C 0 (C 0 + 1))])) := hD5
                    replace hP5 := hP5.sub (ws' := [sO cy hh a kk dd b w ee qq ik, ia cy (hh 1) 7 (upd C 0 (C 0 + 1))] ++ (shB cy qq bi si f)) [9, 10, 0, 1, 2, 3, 4, 5, 6, 7, 8] rfl
                    replace hD5 := hD5.sub (ws' := [sO cy hh a kk dd b w ee qq ik, ia cy (hh 1) 7 (upd C 0 (C 0 + 1))] ++ (shB cy qq bi si f)) [9, 10, 0, 1, 2, 3, 4, 5, 6, 7, 8] (by decide) rfl
                    subst hr_104
                    have hcd : cCopy bi si 2 x2 2 x4 x5 = 0 := by unfold cCopy; clear hx hb hml hown hr hlocks hw hsz hA hG hK hP5 hD5 hS5 hl2; grind
                    have hq9 : ([sO cy hh a kk dd b w ee qq ik, ia cy (hh 1) 7 (upd C 0 (C 0 + 1))] ++ (shB cy qq bi si f)) = ([sO cy hh a kk dd b w ee qq ik, ia cy (hh 1) 7 (fnd C (cCopy bi si 2 x2 2 x4 x5))] ++ (shB cy qq bi si f)) := congrArg (fun z9 => [sO cy hh a kk dd b w ee qq ik, ia cy (hh 1) 7 z9] ++ (shB cy qq bi si f)) (show (upd C 0 (C 0 + 1)) = (fnd C (cCopy bi si 2 x2 2 x4 x5)) from fnd_f hcd (by decide))
                    replace hP5 := (congrArg (fun z9 => va_P D vwCl z9 _) hq9).mp hP5
                    replace hD5 := (congrArg (fun z9 => va_D _ z9) hq9).mp hD5
                    clear hq9
                    have hq9 : ([sO cy hh a kk dd b w ee qq ik, ia cy (hh 1) 7 (fnd C (cCopy bi si 2 x2 2 x4 x5))] ++ (shB cy qq bi si f)) = ([sO cy hh a kk dd b w ee qq ik, ia cy (hh 1) 7 (fnd C (cCopy bi si 2 x2 2 x4 x5))] ++ (shB cy qq bi si (if cCopy bi si 2 x2 2 x4 x5 = 7 then va_up f (bstN 2) (va_cpy (f (bstN 2)) (f (bstN 2)) (bstN x2) (bstN x4) (bstN x5)) else f))) := congrArg (fun z9 => [sO cy hh a kk dd b w ee qq ik, ia cy (hh 1) 7 (fnd C (cCopy bi si 2 x2 2 x4 x5))] ++ (shB cy qq bi si z9)) (show f = (if cCopy bi si 2 x2 2 x4 x5 = 7 then va_up f (bstN 2) (va_cpy (f (bstN 2)) (f (bstN 2)) (bstN x2) (bstN x4) (bstN x5)) else f) from (if_neg (fun z9 => absurd (hcd.symm.trans z9) (by decide))).symm)
                    replace hP5 := (congrArg (fun z9 => va_P D vwCl z9 _) hq9).mp hP5
                    replace hD5 := (congrArg (fun z9 => va_D _ z9) hq9).mp hD5
                    clear hq9
                    refine re_i () hx hb hr hlocks hP5 hD5 hS5 dX6_copy_107 ?_
                    exact (ans_f hcd (by decide) rfl)
              · replace hP2 : va_P D vwCl ([sO cy hh a kk dd b w ee qq ik, ia cy (hh 1) 7 C] ++ (shB cy qq bi si f)) H2 := hP2
                replace hD2 : va_D (va_A _ sz) ([sO cy hh a kk dd b w ee qq ik, ia cy (hh 1) 7 C] ++ (shB cy qq bi si f)) := hD2
                refine lv_aload_n hx hb dX6_copy_73 rfl (lv_at hl2 2 rfl) ?_
                refine lv_iconst (v := 2) hx hb dX6_copy_74 (by decide) ?_
                refine cV_i (wc := [sO cy hh a kk dd b w ee qq ik, ia cy (hh 1) 7 C]) (wr := shB cy qq bi si f) (rest := []) hx hb hml hown hw hG hK hP2 hD2 hS2 hA hl2 kc_X6_find kw_2_59 [.int 2] (c_X6_find l D cy G H2.size hh a kk dd b w ee qq ik C 2 (by first | omega | assumption)) [0, 1] [2, 3, 4, 5, 6, 7, 8, 9, 10] rfl rfl rfl rfl rfl 0 rfl rfl rfl rfl rfl (Nat.le_of_ble_eq_true rfl) ⟨Nat.le_of_ble_eq_true rfl, Nat.le_of_ble_eq_true rfl⟩ dX6_copy_75 ⟨Nat.le_of_ble_eq_true rfl, Nat.le_of_ble_eq_true rfl⟩ (fun r_75 u9 H3 locs3 hu9 hP3 hD3 hS3 => ?_)
                clear hP2 hD2 hS2 locs2 H2
                have hr_75 := hu9
                replace hP3 : va_P D vwCl (shB cy qq bi si f ++ ([sO cy hh a kk dd b w ee qq ik, ia cy (hh 1) 7 (upd C 2 (C 2 + 1))])) H3 := hP3
                replace hD3 : va_D (va_A _ sz) (shB cy qq bi si f ++ ([sO cy hh a kk dd b w ee qq ik, ia cy (hh 1) 7 (upd C 2 (C 2 + 1))])) := hD3
                replace hP3 := hP3.sub (ws' := [sO cy hh a kk dd b w ee qq ik, ia cy (hh 1) 7 (upd C 2 (C 2 + 1))] ++ (shB cy qq bi si f)) [9, 10, 0, 1, 2, 3, 4, 5, 6, 7, 8] rfl
                replace hD3 := hD3.sub (ws' := [sO cy hh a kk dd b w ee qq ik, ia cy (hh 1) 7 (upd C 2 (C 2 + 1))] ++ (shB cy qq bi si f)) [9, 10, 0, 1, 2, 3, 4, 5, 6, 7, 8] (by decide) rfl
                subst hr_75
                have hcd : cCopy bi si 2 x2 2 x4 x5 = 2 := by unfold cCopy; clear hx hb hml hown hr hlocks hw hsz hA hG hK hP3 hD3 hS3 hl2; grind
                have hq9 : ([sO cy hh a kk dd b w ee qq ik, ia cy (hh 1) 7 (upd C 2 (C 2 + 1))] ++ (shB cy qq bi si f)) = ([sO cy hh a kk dd b w ee qq ik, ia cy (hh 1) 7 (fnd C (cCopy bi si 2 x2 2 x4 x5))] ++ (shB cy qq bi si f)) := congrArg (fun z9 => [sO cy hh a kk dd b w ee qq ik, ia cy (hh 1) 7 z9] ++ (shB cy qq bi si f)) (show (upd C 2 (C 2 + 1)) = (fnd C (cCopy bi si 2 x2 2 x4 x5)) from fnd_f hcd (by decide))
                replace hP3 := (congrArg (fun z9 => va_P D vwCl z9 _) hq9).mp hP3
                replace hD3 := (congrArg (fun z9 => va_D _ z9) hq9).mp hD3
                clear hq9
                have hq9 : ([sO cy hh a kk dd b w ee qq ik, ia cy (hh 1) 7 (fnd C (cCopy bi si 2 x2 2 x4 x5))] ++ (shB cy qq bi si f)) = ([sO cy hh a kk dd b w ee qq ik, ia cy (hh 1) 7 (fnd C (cCopy bi si 2 x2 2 x4 x5))] ++ (shB cy qq bi si (if cCopy bi si 2 x2 2 x4 x5 = 7 then va_up f (bstN 2) (va_cpy (f (bstN 2)) (f (bstN 2)) (bstN x2) (bstN x4) (bstN x5)) else f))) := congrArg (fun z9 => [sO cy hh a kk dd b w ee qq ik, ia cy (hh 1) 7 (fnd C (cCopy bi si 2 x2 2 x4 x5))] ++ (shB cy qq bi si z9)) (show f = (if cCopy bi si 2 x2 2 x4 x5 = 7 then va_up f (bstN 2) (va_cpy (f (bstN 2)) (f (bstN 2)) (bstN x2) (bstN x4) (bstN x5)) else f) from (if_neg (fun z9 => absurd (hcd.symm.trans z9) (by decide))).symm)
                replace hP3 := (congrArg (fun z9 => va_P D vwCl z9 _) hq9).mp hP3
                replace hD3 := (congrArg (fun z9 => va_D _ z9) hq9).mp hD3
                clear hq9
                refine re_i () hx hb hr hlocks hP3 hD3 hS3 dX6_copy_78 ?_
                exact (ans_f hcd (by decide) rfl)
            · replace hP2 : va_P D vwCl ([sO cy hh a kk dd b w ee qq ik, ia cy (hh 1) 7 C] ++ (shB cy qq bi si f)) H2 := hP2
              replace hD2 : va_D (va_A _ sz) ([sO cy hh a kk dd b w ee qq ik, ia cy (hh 1) 7 C] ++ (shB cy qq bi si f)) := hD2
              refine lv_aload_n hx hb dX6_copy_54 rfl (lv_at hl2 2 rfl) ?_
              refine lv_iconst (v := 5) hx hb dX6_copy_55 (by decide) ?_
              refine cV_i (wc := [sO cy hh a kk dd b w ee qq ik, ia cy (hh 1) 7 C]) (wr := shB cy qq bi si f) (rest := []) hx hb hml hown hw hG hK hP2 hD2 hS2 hA hl2 kc_X6_find kw_2_59 [.int 5] (c_X6_find l D cy G H2.size hh a kk dd b w ee qq ik C 5 (by first | omega | assumption)) [0, 1] [2, 3, 4, 5, 6, 7, 8, 9, 10] rfl rfl rfl rfl rfl 0 rfl rfl rfl rfl rfl (Nat.le_of_ble_eq_true rfl) ⟨Nat.le_of_ble_eq_true rfl, Nat.le_of_ble_eq_true rfl⟩ dX6_copy_56 ⟨Nat.le_of_ble_eq_true rfl, Nat.le_of_ble_eq_true rfl⟩ (fun r_56 u9 H3 locs3 hu9 hP3 hD3 hS3 => ?_)
              clear hP2 hD2 hS2 locs2 H2
              have hr_56 := hu9
              replace hP3 : va_P D vwCl (shB cy qq bi si f ++ ([sO cy hh a kk dd b w ee qq ik, ia cy (hh 1) 7 (upd C 5 (C 5 + 1))])) H3 := hP3
              replace hD3 : va_D (va_A _ sz) (shB cy qq bi si f ++ ([sO cy hh a kk dd b w ee qq ik, ia cy (hh 1) 7 (upd C 5 (C 5 + 1))])) := hD3
              replace hP3 := hP3.sub (ws' := [sO cy hh a kk dd b w ee qq ik, ia cy (hh 1) 7 (upd C 5 (C 5 + 1))] ++ (shB cy qq bi si f)) [9, 10, 0, 1, 2, 3, 4, 5, 6, 7, 8] rfl
              replace hD3 := hD3.sub (ws' := [sO cy hh a kk dd b w ee qq ik, ia cy (hh 1) 7 (upd C 5 (C 5 + 1))] ++ (shB cy qq bi si f)) [9, 10, 0, 1, 2, 3, 4, 5, 6, 7, 8] (by decide) rfl
              subst hr_56
              have hcd : cCopy bi si 2 x2 2 x4 x5 = 5 := by unfold cCopy; clear hx hb hml hown hr hlocks hw hsz hA hG hK hP3 hD3 hS3 hl2; grind
              have hq9 : ([sO cy hh a kk dd b w ee qq ik, ia cy (hh 1) 7 (upd C 5 (C 5 + 1))] ++ (shB cy qq bi si f)) = ([sO cy hh a kk dd b w ee qq ik, ia cy (hh 1) 7 (fnd C (cCopy bi si 2 x2 2 x4 x5))] ++ (shB cy qq bi si f)) := congrArg (fun z9 => [sO cy hh a kk dd b w ee qq ik, ia cy (hh 1) 7 z9] ++ (shB cy qq bi si f)) (show (upd C 5 (C 5 + 1)) = (fnd C (cCopy bi si 2 x2 2 x4 x5)) from fnd_f hcd (by decide))
              replace hP3 := (congrArg (fun z9 => va_P D vwCl z9 _) hq9).mp hP3
              replace hD3 := (congrArg (fun z9 => va_D _ z9) hq9).mp hD3
              clear hq9
              have hq9 : ([sO cy hh a kk dd b w ee qq ik, ia cy (hh 1) 7 (fnd C (cCopy bi si 2 x2 2 x4 x5))] ++ (shB cy qq bi si f)) = ([sO cy hh a kk dd b w ee qq ik, ia cy (hh 1) 7 (fnd C (cCopy bi si 2 x2 2 x4 x5))] ++ (shB cy qq bi si (if cCopy bi si 2 x2 2 x4 x5 = 7 then va_up f (bstN 2) (va_cpy (f (bstN 2)) (f (bstN 2)) (bstN x2) (bstN x4) (bstN x5)) else f))) := congrArg (fun z9 => [sO cy hh a kk dd b w ee qq ik, ia cy (hh 1) 7 (fnd C (cCopy bi si 2 x2 2 x4 x5))] ++ (shB cy qq bi si z9)) (show f = (if cCopy bi si 2 x2 2 x4 x5 = 7 then va_up f (bstN 2) (va_cpy (f (bstN 2)) (f (bstN 2)) (bstN x2) (bstN x4) (bstN x5)) else f) from (if_neg (fun z9 => absurd (hcd.symm.trans z9) (by decide))).symm)
              replace hP3 := (congrArg (fun z9 => va_P D vwCl z9 _) hq9).mp hP3
              replace hD3 := (congrArg (fun z9 => va_D _ z9) hq9).mp hD3
              clear hq9
              refine re_i () hx hb hr hlocks hP3 hD3 hS3 dX6_copy_59 ?_
              exact (ans_f hcd (by decide) rfl)
        · refine lv_iload_n hx hb dX6_copy_34 rfl (lv_at hl1 4 rfl) ?_
          refine ald_q hx hb hK hP2 2 3 rfl rfl rfl 3 rfl (by first | omega | assumption) (by decide) (rfl) dX6_copy_35 ?_
          refine lv_astore (lv' := [(7, .ref (qq 4)), (6, .ref (qq 3)), (0, .ref (hh 0)), (1, .int 2), (2, .int x2), (3, .int 3), (4, .int x4), (5, .int x5)]) hx hb dX6_copy_36 hl1 (by decide) rfl (fun ls2 hl2 => ?_)
          clear hl1 ls1
          refine lv_aload hx hb dX6_copy_38 (lv_at hl2 1 rfl) ?_
          refine va_get (D := D) (ci := 2) (v := .int (bi 2)) (C := RX2) (T := TX2) (N := 3) hx hb hw iX2 hown hK hP2 5 rfl rfl 1 (by decide) (hw _ kw_2_16) (fun _ h9 => h9) rfl dX6_copy_40 ?_
          refine lv_if_eq (tgt := 54) hx hb dX6_copy_43 (by decide) (fun c_43 => ?_) (fun c_43 => ?_)
          · replace hP2 : va_P D vwCl ([sO cy hh a kk dd b w ee qq ik, ia cy (hh 1) 7 C] ++ (shB cy qq bi si f)) H2 := hP2
            replace hD2 : va_D (va_A _ sz) ([sO cy hh a kk dd b w ee qq ik, ia cy (hh 1) 7 C] ++ (shB cy qq bi si f)) := hD2
            refine lv_aload_n hx hb dX6_copy_54 rfl (lv_at hl2 2 rfl) ?_
            refine lv_iconst (v := 5) hx hb dX6_copy_55 (by decide) ?_
            refine cV_i (wc := [sO cy hh a kk dd b w ee qq ik, ia cy (hh 1) 7 C]) (wr := shB cy qq bi si f) (rest := []) hx hb hml hown hw hG hK hP2 hD2 hS2 hA hl2 kc_X6_find kw_2_59 [.int 5] (c_X6_find l D cy G H2.size hh a kk dd b w ee qq ik C 5 (by first | omega | assumption)) [0, 1] [2, 3, 4, 5, 6, 7, 8, 9, 10] rfl rfl rfl rfl rfl 0 rfl rfl rfl rfl rfl (Nat.le_of_ble_eq_true rfl) ⟨Nat.le_of_ble_eq_true rfl, Nat.le_of_ble_eq_true rfl⟩ dX6_copy_56 ⟨Nat.le_of_ble_eq_true rfl, Nat.le_of_ble_eq_true rfl⟩ (fun r_56 u9 H3 locs3 hu9 hP3 hD3 hS3 => ?_)
            clear hP2 hD2 hS2 locs2 H2
            have hr_56 := hu9
            replace hP3 : va_P D vwCl (shB cy qq bi si f ++ ([sO cy hh a kk dd b w ee qq ik, ia cy (hh 1) 7 (upd C 5 (C 5 + 1))])) H3 := hP3
            replace hD3 : va_D (va_A _ sz) (shB cy qq bi si f ++ ([sO cy hh a kk dd b w ee qq ik, ia cy (hh 1) 7 (upd C 5 (C 5 + 1))])) := hD3
            replace hP3 := hP3.sub (ws' := [sO cy hh a kk dd b w ee qq ik, ia cy (hh 1) 7 (upd C 5 (C 5 + 1))] ++ (shB cy qq bi si f)) [9, 10, 0, 1, 2, 3, 4, 5, 6, 7, 8] rfl
            replace hD3 := hD3.sub (ws' := [sO cy hh a kk dd b w ee qq ik, ia cy (hh 1) 7 (upd C 5 (C 5 + 1))] ++ (shB cy qq bi si f)) [9, 10, 0, 1, 2, 3, 4, 5, 6, 7, 8] (by decide) rfl
            subst hr_56
            have hcd : cCopy bi si 2 x2 3 x4 x5 = 5 := by unfold cCopy; clear hx hb hml hown hr hlocks hw hsz hA hG hK hP3 hD3 hS3 hl2; grind
            have hq9 : ([sO cy hh a kk dd b w ee qq ik, ia cy (hh 1) 7 (upd C 5 (C 5 + 1))] ++ (shB cy qq bi si f)) = ([sO cy hh a kk dd b w ee qq ik, ia cy (hh 1) 7 (fnd C (cCopy bi si 2 x2 3 x4 x5))] ++ (shB cy qq bi si f)) := congrArg (fun z9 => [sO cy hh a kk dd b w ee qq ik, ia cy (hh 1) 7 z9] ++ (shB cy qq bi si f)) (show (upd C 5 (C 5 + 1)) = (fnd C (cCopy bi si 2 x2 3 x4 x5)) from fnd_f hcd (by decide))
            replace hP3 := (congrArg (fun z9 => va_P D vwCl z9 _) hq9).mp hP3
            replace hD3 := (congrArg (fun z9 => va_D _ z9) hq9).mp hD3
            clear hq9
            have hq9 : ([sO cy hh a kk dd b w ee qq ik, ia cy (hh 1) 7 (fnd C (cCopy bi si 2 x2 3 x4 x5))] ++ (shB cy qq bi si f)) = ([sO cy hh a kk dd b w ee qq ik, ia cy (hh 1) 7 (fnd C (cCopy bi si 2 x2 3 x4 x5))] ++ (shB cy qq bi si (if cCopy bi si 2 x2 3 x4 x5 = 7 then va_up f (bstN 3) (va_cpy (f (bstN 2)) (f (bstN 3)) (bstN x2) (bstN x4) (bstN x5)) else f))) := congrArg (fun z9 => [sO cy hh a kk dd b w ee qq ik, ia cy (hh 1) 7 (fnd C (cCopy bi si 2 x2 3 x4 x5))] ++ (shB cy qq bi si z9)) (show f = (if cCopy bi si 2 x2 3 x4 x5 = 7 then va_up f (bstN 3) (va_cpy (f (bstN 2)) (f (bstN 3)) (bstN x2) (bstN x4) (bstN x5)) else f) from (if_neg (fun z9 => absurd (hcd.symm.trans z9) (by decide))).symm)
            replace hP3 := (congrArg (fun z9 => va_P D vwCl z9 _) hq9).mp hP3
            replace hD3 := (congrArg (fun z9 => va_D _ z9) hq9).mp hD3
            clear hq9
            refine re_i () hx hb hr hlocks hP3 hD3 hS3 dX6_copy_59 ?_
            exact (ans_f hcd (by decide) rfl)
          · refine lv_aload hx hb dX6_copy_46 (lv_at hl2 0 rfl) ?_
            refine va_get (D := D) (ci := 2) (v := .int (bi 3)) (C := RX2) (T := TX2) (N := 3) hx hb hw iX2 hown hK hP2 6 rfl rfl 1 (by decide) (hw _ kw_2_16) (fun _ h9 => h9) rfl dX6_copy_48 ?_
            refine lv_if_ne (tgt := 60) hx hb dX6_copy_51 (by decide) (fun c_51 => ?_) (fun c_51 => ?_)
            · refine lv_aload hx hb dX6_copy_60 (lv_at hl2 1 rfl) ?_
              refine va_get (D := D) (ci := 2) (v := .int (bi 2)) (C := RX2) (T := TX2) (N := 3) hx hb hw iX2 hown hK hP2 5 rfl rfl 1 (by decide) (hw _ kw_2_16) (fun _ h9 => h9) rfl dX6_copy_62 ?_
              refine lv_aload hx hb dX6_copy_65 (lv_at hl2 0 rfl) ?_
              refine va_get (D := D) (ci := 2) (v := .int (bi 3)) (C := RX2) (T := TX2) (N := 3) hx hb hw iX2 hown hK hP2 6 rfl rfl 1 (by decide) (hw _ kw_2_16) (fun _ h9 => h9) rfl dX6_copy_67 ?_
              refine lv_icmp_eq (tgt := 79) hx hb dX6_copy_70 (by decide) (fun c_70 => ?_) (fun c_70 => ?_)
              · refine lv_aload hx hb dX6_copy_79 (lv_at hl2 1 rfl) ?_
                refine lv_iload_n hx hb dX6_copy_81 rfl (lv_at hl2 4 rfl) ?_
                refine lv_iload hx hb dX6_copy_82 (lv_at hl2 7 rfl) ?_
                refine rV_i (wc := [hO cy (qq 3) (qq 7) (bi 2) (si 2), la cy (qq 7) 40 (f 2)]) (rest := []) hx hb hml hown hw hG hK hP2 hS2 hA hl2 kc_X2_hasRow kw_4_12 [.int x2, .int x5] (c_X2_hasRow l D cy G H2.size (qq 3) (qq 7) (bi 2) (si 2) (f 2) x2 x5) [5, 9] rfl 0 rfl rfl rfl rfl rfl (Nat.le_of_ble_eq_true rfl) ⟨Nat.le_of_ble_eq_true rfl, Nat.le_of_ble_eq_true rfl⟩ dX6_copy_84 ⟨Nat.le_of_ble_eq_true rfl, Nat.le_of_ble_eq_true rfl⟩ (fun r_84 H3 locs3 hr_84 hP3 hS3 => ?_)
                have hD3 := hD2
                clear hP2 hD2 hS2 locs2 H2
                subst hr_84
                refine lb_eq (tgt := 102) hx hb dX6_copy_87 (by decide) (fun c_87 => ?_) (fun c_87 => ?_)
                · replace hP3 : va_P D vwCl ([sO cy hh a kk dd b w ee qq ik, ia cy (hh 1) 7 C] ++ (shB cy qq bi si f)) H3 := hP3
                  replace hD3 : va_D (va_A _ sz) ([sO cy hh a kk dd b w ee qq ik, ia cy (hh 1) 7 C] ++ (shB cy qq bi si f)) := hD3
                  refine lv_aload_n hx hb dX6_copy_102 rfl (lv_at hl2 2 rfl) ?_
                  refine lv_iconst (v := 0) hx hb dX6_copy_103 (by decide) ?_
                  refine cV_i (wc := [sO cy hh a kk dd b w ee qq ik, ia cy (hh 1) 7 C]) (wr := shB cy qq bi si f) (rest := []) hx hb hml hown hw hG hK hP3 hD3 hS3 hA hl2 kc_X6_find kw_2_59 [.int 0] (c_X6_find l D cy G H3.size hh a kk dd b w ee qq ik C 0 (by first | omega | assumption)) [0, 1] [2, 3, 4, 5, 6, 7, 8, 9, 10] rfl rfl rfl rfl rfl 0 rfl rfl rfl rfl rfl (Nat.le_of_ble_eq_true rfl) ⟨Nat.le_of_ble_eq_true rfl, Nat.le_of_ble_eq_true rfl⟩ dX6_copy_104 ⟨Nat.le_of_ble_eq_true rfl, Nat.le_of_ble_eq_true rfl⟩ (fun r_104 u9 H4 locs4 hu9 hP4 hD4 hS4 => ?_)
                  clear hP3 hD3 hS3 locs3 H3
                  have hr_104 := hu9
                  replace hP4 : va_P D vwCl (shB cy qq bi si f ++ ([sO cy hh a kk dd b w ee qq ik, ia cy (hh 1) 7 (upd C 0 (C 0 + 1))])) H4 := hP4
                  replace hD4 : va_D (va_A _ sz) (shB cy qq bi si f ++ ([sO cy hh a kk dd b w ee qq ik, ia cy (hh 1) 7 (upd C 0 (C 0 + 1))])) := hD4
                  replace hP4 := hP4.sub (ws' := [sO cy hh a kk dd b w ee qq ik, ia cy (hh 1) 7 (upd C 0 (C 0 + 1))] ++ (shB cy qq bi si f)) [9, 10, 0, 1, 2, 3, 4, 5, 6, 7, 8] rfl
                  replace hD4 := hD4.sub (ws' := [sO cy hh a kk dd b w ee qq ik, ia cy (hh 1) 7 (upd C 0 (C 0 + 1))] ++ (shB cy qq bi si f)) [9, 10, 0, 1, 2, 3, 4, 5, 6, 7, 8] (by decide) rfl
                  subst hr_104
                  have hcd : cCopy bi si 2 x2 3 x4 x5 = 0 := by unfold cCopy; clear hx hb hml hown hr hlocks hw hsz hA hG hK hP4 hD4 hS4 hl2; grind
                  have hq9 : ([sO cy hh a kk dd b w ee qq ik, ia cy (hh 1) 7 (upd C 0 (C 0 + 1))] ++ (shB cy qq bi si f)) = ([sO cy hh a kk dd b w ee qq ik, ia cy (hh 1) 7 (fnd C (cCopy bi si 2 x2 3 x4 x5))] ++ (shB cy qq bi si f)) := congrArg (fun z9 => [sO cy hh a kk dd b w ee qq ik, ia cy (hh 1) 7 z9] ++ (shB cy qq bi si f)) (show (upd C 0 (C 0 + 1)) = (fnd C (cCopy bi si 2 x2 3 x4 x5)) from fnd_f hcd (by decide))
                  replace hP4 := (congrArg (fun z9 => va_P D vwCl z9 _) hq9).mp hP4
                  replace hD4 := (congrArg (fun z9 => va_D _ z9) hq9).mp hD4
                  clear hq9
                  have hq9 : ([sO cy hh a kk dd b w ee qq ik, ia cy (hh 1) 7 (fnd C (cCopy bi si 2 x2 3 x4 x5))] ++ (shB cy qq bi si f)) = ([sO cy hh a kk dd b w ee qq ik, ia cy (hh 1) 7 (fnd C (cCopy bi si 2 x2 3 x4 x5))] ++ (shB cy qq bi si (if cCopy bi si 2 x2 3 x4 x5 = 7 then va_up f (bstN 3) (va_cpy (f (bstN 2)) (f (bstN 3)) (bstN x2) (bstN x4) (bstN x5)) else f))) := congrArg (fun z9 => [sO cy hh a kk dd b w ee qq ik, ia cy (hh 1) 7 (fnd C (cCopy bi si 2 x2 3 x4 x5))] ++ (shB cy qq bi si z9)) (show f = (if cCopy bi si 2 x2 3 x4 x5 = 7 then va_up f (bstN 3) (va_cpy (f (bstN 2)) (f (bstN 3)) (bstN x2) (bstN x4) (bstN x5)) else f) from (if_neg (fun z9 => absurd (hcd.symm.trans z9) (by decide))).symm)
                  replace hP4 := (congrArg (fun z9 => va_P D vwCl z9 _) hq9).mp hP4
                  replace hD4 := (congrArg (fun z9 => va_D _ z9) hq9).mp hD4
                  clear hq9
                  refine re_i () hx hb hr hlocks hP4 hD4 hS4 dX6_copy_107 ?_
                  exact (ans_f hcd (by decide) rfl)
                · refine lv_aload hx hb dX6_copy_90 (lv_at hl2 0 rfl) ?_
                  refine lv_iload hx hb dX6_copy_92 (lv_at hl2 6 rfl) ?_
                  refine lv_iload hx hb dX6_copy_94 (lv_at hl2 7 rfl) ?_
                  refine rV_i (wc := [hO cy (qq 4) (qq 8) (bi 3) (si 3), la cy (qq 8) 40 (f 3)]) (rest := []) hx hb hml hown hw hG hK hP3 hS3 hA hl2 kc_X2_hasRow kw_4_12 [.int x4, .int x5] (c_X2_hasRow l D cy G H3.size (qq 4) (qq 8) (bi 3) (si 3) (f 3) x4 x5) [6, 10] rfl 0 rfl rfl rfl rfl rfl (Nat.le_of_ble_eq_true rfl) ⟨Nat.le_of_ble_eq_true rfl, Nat.le_of_ble_eq_true rfl⟩ dX6_copy_96 ⟨Nat.le_of_ble_eq_true rfl, Nat.le_of_ble_eq_true rfl⟩ (fun r_96 H4 locs4 hr_96 hP4 hS4 => ?_)
                  have hD4 := hD3
                  clear hP3 hD3 hS3 locs3 H3
                  subst hr_96
                  refine lb_ne (tgt := 108) hx hb dX6_copy_99 (by decide) (fun c_99 => ?_) (fun c_99 => ?_)
                  · have h8 := c_87
                    rw [(hso 2 (by decide)).1] at h8
                    have h9 := c_99
                    rw [(hso 3 (by decide)).1] at h9
                    obtain ⟨a1, n1, hab, rfl, rfl⟩ := row_at (by omega) h8
                    obtain ⟨a2, n2, hab2, rfl, e4⟩ := row_at (by omega) h9
                    obtain rfl : n1 = n2 := (nI_eq (by omega) (by omega)).mp e4
                    have hba1 : bstN (nI a1) = a1 := bst_n (by omega)
                    have hba2 : bstN (nI a2) = a2 := bst_n (by omega)
                    have hbn : bstN (nI n1) = n1 := bst_n (by omega)
                    refine lv_aload hx hb dX6_copy_108 (lv_at hl2 1 rfl) ?_
                    refine va_get (D := D) (ci := 2) (v := .ref (qq 7)) (C := RX2) (T := TX2) (N := 3) hx hb hw iX2 hown hK hP4 5 rfl rfl 0 (by decide) (hw _ kw_2_14) (fun _ h9 => h9) rfl dX6_copy_110 ?_
                    refine lv_iload_n hx hb dX6_copy_113 rfl (lv_at hl2 4 rfl) ?_
                    refine lv_aload hx hb dX6_copy_114 (lv_at hl2 0 rfl) ?_
                    refine va_get (D := D) (ci := 2) (v := .ref (qq 8)) (C := RX2) (T := TX2) (N := 3) hx hb hw iX2 hown hK hP4 6 rfl rfl 0 (by decide) (hw _ kw_2_14) (fun _ h9 => h9) rfl dX6_copy_116 ?_
                    refine lv_iload hx hb dX6_copy_119 (lv_at hl2 6 rfl) ?_
                    refine lv_iload hx hb dX6_copy_121 (lv_at hl2 7 rfl) ?_
                    refine acpL (f := f 2) (g := f 3) (ws' := [sO cy hh a kk dd b w ee qq ik, ia cy (hh 1) 7 C, qsB cy qq, hO cy (qq 1) (qq 5) (bi 0) (si 0), hO cy (qq 2) (qq 6) (bi 1) (si 1), hO cy (qq 3) (qq 7) (bi 2) (si 2), hO cy (qq 4) (qq 8) (bi 3) (si 3), la cy (qq 5) 40 (f 0), la cy (qq 6) 40 (f 1), la cy (qq 7) 40 (f 2), la cy (qq 8) 40 (va_cpy (f 2) (f 3) a1 a2 n1)]) hx hb hml hl2 hw hown kw_4_16 kw_2_162 kw_2_161 kw_1_9 hK hP4 hD4 hS4 9 10 1 rfl rfl rfl a1 a2 n1 rfl rfl rfl (by omega) (by omega) (by omega) (by first | decide | omega) (by first | decide | omega) rfl (Nat.le_of_ble_eq_true rfl) (Nat.le_of_ble_eq_true rfl) dX6_copy_123 (fun H5 locs5 hP5 hD5 hS5 => ?_)
                    clear hP4 hD4 hS4 locs4 H4
                    replace hP5 : va_P D vwCl ([sO cy hh a kk dd b w ee qq ik, ia cy (hh 1) 7 C] ++ (shB cy qq bi si (va_up f 3 (va_cpy (f 2) (f 3) a1 a2 n1)))) H5 := hP5
                    replace hD5 : va_D (va_A _ sz) ([sO cy hh a kk dd b w ee qq ik, ia cy (hh 1) 7 C] ++ (shB cy qq bi si (va_up f 3 (va_cpy (f 2) (f 3) a1 a2 n1)))) := hD5
                    refine lv_iload hx hb dX6_copy_126 (lv_at hl2 7 rfl) ?_
                    have hcd : cCopy bi si 2 (nI a1) 3 (nI a2) (nI n1) = 7 := by unfold cCopy; clear hx hb hml hown hr hlocks hw hsz hA hG hK hP5 hD5 hS5 hl2; grind
                    have hq9 : ([sO cy hh a kk dd b w ee qq ik, ia cy (hh 1) 7 C] ++ (shB cy qq bi si (va_up f 3 (va_cpy (f 2) (f 3) a1 a2 n1)))) = ([sO cy hh a kk dd b w ee qq ik, ia cy (hh 1) 7 (fnd C (cCopy bi si 2 (nI a1) 3 (nI a2) (nI n1)))] ++ (shB cy qq bi si (va_up f 3 (va_cpy (f 2) (f 3) a1 a2 n1)))) := congrArg (fun z9 => [sO cy hh a kk dd b w ee qq ik, ia cy (hh 1) 7 z9] ++ (shB cy qq bi si (va_up f 3 (va_cpy (f 2) (f 3) a1 a2 n1)))) (show C = (fnd C (cCopy bi si 2 (nI a1) 3 (nI a2) (nI n1))) from fnd_o hcd)
                    replace hP5 := (congrArg (fun z9 => va_P D vwCl z9 _) hq9).mp hP5
                    replace hD5 := (congrArg (fun z9 => va_D _ z9) hq9).mp hD5
                    clear hq9
                    have hq9 : ([sO cy hh a kk dd b w ee qq ik, ia cy (hh 1) 7 (fnd C (cCopy bi si 2 (nI a1) 3 (nI a2) (nI n1)))] ++ (shB cy qq bi si (va_up f 3 (va_cpy (f 2) (f 3) a1 a2 n1)))) = ([sO cy hh a kk dd b w ee qq ik, ia cy (hh 1) 7 (fnd C (cCopy bi si 2 (nI a1) 3 (nI a2) (nI n1)))] ++ (shB cy qq bi si (if cCopy bi si 2 (nI a1) 3 (nI a2) (nI n1) = 7 then va_up f (bstN 3) (va_cpy (f (bstN 2)) (f (bstN 3)) (bstN (nI a1)) (bstN (nI a2)) (bstN (nI n1))) else f))) := congrArg (fun z9 => [sO cy hh a kk dd b w ee qq ik, ia cy (hh 1) 7 (fnd C (cCopy bi si 2 (nI a1) 3 (nI a2) (nI n1)))] ++ (shB cy qq bi si z9)) (show (va_up f 3 (va_cpy (f 2) (f 3) a1 a2 n1)) = (if cCopy bi si 2 (nI a1) 3 (nI a2) (nI n1) = 7 then va_up f (bstN 3) (va_cpy (f (bstN 2)) (f (bstN 3)) (bstN (nI a1)) (bstN (nI a2)) (bstN (nI n1))) else f) from by rw [if_pos hcd]; simp only [hba1, hba2, hbn, hb0, hb1, hb2, hb3])
                    replace hP5 := (congrArg (fun z9 => va_P D vwCl z9 _) hq9).mp hP5
                    replace hD5 := (congrArg (fun z9 => va_D _ z9) hq9).mp hD5
                    clear hq9
                    refine re_i () hx hb hr hlocks hP5 hD5 hS5 dX6_copy_128 ?_
                    exact (ans_o hcd (rfl))
                  · replace hP4 : va_P D vwCl ([sO cy hh a kk dd b w ee qq ik, ia cy (hh 1) 7 C] ++ (shB cy qq bi si f)) H4 := hP4
                    replace hD4 : va_D (va_A _ sz) ([sO cy hh a kk dd b w ee qq ik, ia cy (hh 1) 7 C] ++ (shB cy qq bi si f)) := hD4
                    refine lv_aload_n hx hb dX6_copy_102 rfl (lv_at hl2 2 rfl) ?_
                    refine lv_iconst (v := 0) hx hb dX6_copy_103 (by decide) ?_
                    refine cV_i (wc := [sO cy hh a kk dd b w ee qq ik, ia cy (hh 1) 7 C]) (wr := shB cy qq bi si f) (rest := []) hx hb hml hown hw hG hK hP4 hD4 hS4 hA hl2 kc_X6_find kw_2_59 [.int 0] (c_X6_find l D cy G H4.size hh a kk dd b w ee qq ik C 0 (by first | omega | assumption)) [0, 1] [2, 3, 4, 5, 6, 7, 8, 9, 10] rfl rfl rfl rfl rfl 0 rfl rfl rfl rfl rfl (Nat.le_of_ble_eq_true rfl) ⟨Nat.le_of_ble_eq_true rfl, Nat.le_of_ble_eq_true rfl⟩ dX6_copy_104 ⟨Nat.le_of_ble_eq_true rfl, Nat.le_of_ble_eq_true rfl⟩ (fun r_104 u9 H5 locs5 hu9 hP5 hD5 hS5 => ?_)
                    clear hP4 hD4 hS4 locs4 H4
                    have hr_104 := hu9
                    replace hP5 : va_P D vwCl (shB cy qq bi si f ++ ([sO cy hh a kk dd b w ee qq ik, ia cy (hh 1) 7 (upd C 0 (C 0 + 1))])) H5 := hP5
                    replace hD5 : va_D (va_A _ sz) (shB cy qq bi si f ++ ([sO cy hh a kk dd b w ee qq ik, ia cy (hh 1) 7 (upd C 0 (C 0 + 1))])) := hD5
                    replace hP5 := hP5.sub (ws' := [sO cy hh a kk dd b w ee qq ik, ia cy (hh 1) 7 (upd C 0 (C 0 + 1))] ++ (shB cy qq bi si f)) [9, 10, 0, 1, 2, 3, 4, 5, 6, 7, 8] rfl
                    replace hD5 := hD5.sub (ws' := [sO cy hh a kk dd b w ee qq ik, ia cy (hh 1) 7 (upd C 0 (C 0 + 1))] ++ (shB cy qq bi si f)) [9, 10, 0, 1, 2, 3, 4, 5, 6, 7, 8] (by decide) rfl
                    subst hr_104
                    have hcd : cCopy bi si 2 x2 3 x4 x5 = 0 := by unfold cCopy; clear hx hb hml hown hr hlocks hw hsz hA hG hK hP5 hD5 hS5 hl2; grind
                    have hq9 : ([sO cy hh a kk dd b w ee qq ik, ia cy (hh 1) 7 (upd C 0 (C 0 + 1))] ++ (shB cy qq bi si f)) = ([sO cy hh a kk dd b w ee qq ik, ia cy (hh 1) 7 (fnd C (cCopy bi si 2 x2 3 x4 x5))] ++ (shB cy qq bi si f)) := congrArg (fun z9 => [sO cy hh a kk dd b w ee qq ik, ia cy (hh 1) 7 z9] ++ (shB cy qq bi si f)) (show (upd C 0 (C 0 + 1)) = (fnd C (cCopy bi si 2 x2 3 x4 x5)) from fnd_f hcd (by decide))
                    replace hP5 := (congrArg (fun z9 => va_P D vwCl z9 _) hq9).mp hP5
                    replace hD5 := (congrArg (fun z9 => va_D _ z9) hq9).mp hD5
                    clear hq9
                    have hq9 : ([sO cy hh a kk dd b w ee qq ik, ia cy (hh 1) 7 (fnd C (cCopy bi si 2 x2 3 x4 x5))] ++ (shB cy qq bi si f)) = ([sO cy hh a kk dd b w ee qq ik, ia cy (hh 1) 7 (fnd C (cCopy bi si 2 x2 3 x4 x5))] ++ (shB cy qq bi si (if cCopy bi si 2 x2 3 x4 x5 = 7 then va_up f (bstN 3) (va_cpy (f (bstN 2)) (f (bstN 3)) (bstN x2) (bstN x4) (bstN x5)) else f))) := congrArg (fun z9 => [sO cy hh a kk dd b w ee qq ik, ia cy (hh 1) 7 (fnd C (cCopy bi si 2 x2 3 x4 x5))] ++ (shB cy qq bi si z9)) (show f = (if cCopy bi si 2 x2 3 x4 x5 = 7 then va_up f (bstN 3) (va_cpy (f (bstN 2)) (f (bstN 3)) (bstN x2) (bstN x4) (bstN x5)) else f) from (if_neg (fun z9 => absurd (hcd.symm.trans z9) (by decide))).symm)
                    replace hP5 := (congrArg (fun z9 => va_P D vwCl z9 _) hq9).mp hP5
                    replace hD5 := (congrArg (fun z9 => va_D _ z9) hq9).mp hD5
                    clear hq9
                    refine re_i () hx hb hr hlocks hP5 hD5 hS5 dX6_copy_107 ?_
                    exact (ans_f hcd (by decide) rfl)
              · replace hP2 : va_P D vwCl ([sO cy hh a kk dd b w ee qq ik, ia cy (hh 1) 7 C] ++ (shB cy qq bi si f)) H2 := hP2
                replace hD2 : va_D (va_A _ sz) ([sO cy hh a kk dd b w ee qq ik, ia cy (hh 1) 7 C] ++ (shB cy qq bi si f)) := hD2
                refine lv_aload_n hx hb dX6_copy_73 rfl (lv_at hl2 2 rfl) ?_
                refine lv_iconst (v := 2) hx hb dX6_copy_74 (by decide) ?_
                refine cV_i (wc := [sO cy hh a kk dd b w ee qq ik, ia cy (hh 1) 7 C]) (wr := shB cy qq bi si f) (rest := []) hx hb hml hown hw hG hK hP2 hD2 hS2 hA hl2 kc_X6_find kw_2_59 [.int 2] (c_X6_find l D cy G H2.size hh a kk dd b w ee qq ik C 2 (by first | omega | assumption)) [0, 1] [2, 3, 4, 5, 6, 7, 8, 9, 10] rfl rfl rfl rfl rfl 0 rfl rfl rfl rfl rfl (Nat.le_of_ble_eq_true rfl) ⟨Nat.le_of_ble_eq_true rfl, Nat.le_of_ble_eq_true rfl⟩ dX6_copy_75 ⟨Nat.le_of_ble_eq_true rfl, Nat.le_of_ble_eq_true rfl⟩ (fun r_75 u9 H3 locs3 hu9 hP3 hD3 hS3 => ?_)
                clear hP2 hD2 hS2 locs2 H2
                have hr_75 := hu9
                replace hP3 : va_P D vwCl (shB cy qq bi si f ++ ([sO cy hh a kk dd b w ee qq ik, ia cy (hh 1) 7 (upd C 2 (C 2 + 1))])) H3 := hP3
                replace hD3 : va_D (va_A _ sz) (shB cy qq bi si f ++ ([sO cy hh a kk dd b w ee qq ik, ia cy (hh 1) 7 (upd C 2 (C 2 + 1))])) := hD3
                replace hP3 := hP3.sub (ws' := [sO cy hh a kk dd b w ee qq ik, ia cy (hh 1) 7 (upd C 2 (C 2 + 1))] ++ (shB cy qq bi si f)) [9, 10, 0, 1, 2, 3, 4, 5, 6, 7, 8] rfl
                replace hD3 := hD3.sub (ws' := [sO cy hh a kk dd b w ee qq ik, ia cy (hh 1) 7 (upd C 2 (C 2 + 1))] ++ (shB cy qq bi si f)) [9, 10, 0, 1, 2, 3, 4, 5, 6, 7, 8] (by decide) rfl
                subst hr_75
                have hcd : cCopy bi si 2 x2 3 x4 x5 = 2 := by unfold cCopy; clear hx hb hml hown hr hlocks hw hsz hA hG hK hP3 hD3 hS3 hl2; grind
                have hq9 : ([sO cy hh a kk dd b w ee qq ik, ia cy (hh 1) 7 (upd C 2 (C 2 + 1))] ++ (shB cy qq bi si f)) = ([sO cy hh a kk dd b w ee qq ik, ia cy (hh 1) 7 (fnd C (cCopy bi si 2 x2 3 x4 x5))] ++ (shB cy qq bi si f)) := congrArg (fun z9 => [sO cy hh a kk dd b w ee qq ik, ia cy (hh 1) 7 z9] ++ (shB cy qq bi si f)) (show (upd C 2 (C 2 + 1)) = (fnd C (cCopy bi si 2 x2 3 x4 x5)) from fnd_f hcd (by decide))
                replace hP3 := (congrArg (fun z9 => va_P D vwCl z9 _) hq9).mp hP3
                replace hD3 := (congrArg (fun z9 => va_D _ z9) hq9).mp hD3
                clear hq9
                have hq9 : ([sO cy hh a kk dd b w ee qq ik, ia cy (hh 1) 7 (fnd C (cCopy bi si 2 x2 3 x4 x5))] ++ (shB cy qq bi si f)) = ([sO cy hh a kk dd b w ee qq ik, ia cy (hh 1) 7 (fnd C (cCopy bi si 2 x2 3 x4 x5))] ++ (shB cy qq bi si (if cCopy bi si 2 x2 3 x4 x5 = 7 then va_up f (bstN 3) (va_cpy (f (bstN 2)) (f (bstN 3)) (bstN x2) (bstN x4) (bstN x5)) else f))) := congrArg (fun z9 => [sO cy hh a kk dd b w ee qq ik, ia cy (hh 1) 7 (fnd C (cCopy bi si 2 x2 3 x4 x5))] ++ (shB cy qq bi si z9)) (show f = (if cCopy bi si 2 x2 3 x4 x5 = 7 then va_up f (bstN 3) (va_cpy (f (bstN 2)) (f (bstN 3)) (bstN x2) (bstN x4) (bstN x5)) else f) from (if_neg (fun z9 => absurd (hcd.symm.trans z9) (by decide))).symm)
                replace hP3 := (congrArg (fun z9 => va_P D vwCl z9 _) hq9).mp hP3
                replace hD3 := (congrArg (fun z9 => va_D _ z9) hq9).mp hD3
                clear hq9
                refine re_i () hx hb hr hlocks hP3 hD3 hS3 dX6_copy_78 ?_
                exact (ans_f hcd (by decide) rfl)
            · replace hP2 : va_P D vwCl ([sO cy hh a kk dd b w ee qq ik, ia cy (hh 1) 7 C] ++ (shB cy qq bi si f)) H2 := hP2
              replace hD2 : va_D (va_A _ sz) ([sO cy hh a kk dd b w ee qq ik, ia cy (hh 1) 7 C] ++ (shB cy qq bi si f)) := hD2
              refine lv_aload_n hx hb dX6_copy_54 rfl (lv_at hl2 2 rfl) ?_
              refine lv_iconst (v := 5) hx hb dX6_copy_55 (by decide) ?_
              refine cV_i (wc := [sO cy hh a kk dd b w ee qq ik, ia cy (hh 1) 7 C]) (wr := shB cy qq bi si f) (rest := []) hx hb hml hown hw hG hK hP2 hD2 hS2 hA hl2 kc_X6_find kw_2_59 [.int 5] (c_X6_find l D cy G H2.size hh a kk dd b w ee qq ik C 5 (by first | omega | assumption)) [0, 1] [2, 3, 4, 5, 6, 7, 8, 9, 10] rfl rfl rfl rfl rfl 0 rfl rfl rfl rfl rfl (Nat.le_of_ble_eq_true rfl) ⟨Nat.le_of_ble_eq_true rfl, Nat.le_of_ble_eq_true rfl⟩ dX6_copy_56 ⟨Nat.le_of_ble_eq_true rfl, Nat.le_of_ble_eq_true rfl⟩ (fun r_56 u9 H3 locs3 hu9 hP3 hD3 hS3 => ?_)
              clear hP2 hD2 hS2 locs2 H2
              have hr_56 := hu9
              replace hP3 : va_P D vwCl (shB cy qq bi si f ++ ([sO cy hh a kk dd b w ee qq ik, ia cy (hh 1) 7 (upd C 5 (C 5 + 1))])) H3 := hP3
              replace hD3 : va_D (va_A _ sz) (shB cy qq bi si f ++ ([sO cy hh a kk dd b w ee qq ik, ia cy (hh 1) 7 (upd C 5 (C 5 + 1))])) := hD3
              replace hP3 := hP3.sub (ws' := [sO cy hh a kk dd b w ee qq ik, ia cy (hh 1) 7 (upd C 5 (C 5 + 1))] ++ (shB cy qq bi si f)) [9, 10, 0, 1, 2, 3, 4, 5, 6, 7, 8] rfl
              replace hD3 := hD3.sub (ws' := [sO cy hh a kk dd b w ee qq ik, ia cy (hh 1) 7 (upd C 5 (C 5 + 1))] ++ (shB cy qq bi si f)) [9, 10, 0, 1, 2, 3, 4, 5, 6, 7, 8] (by decide) rfl
              subst hr_56
              have hcd : cCopy bi si 2 x2 3 x4 x5 = 5 := by unfold cCopy; clear hx hb hml hown hr hlocks hw hsz hA hG hK hP3 hD3 hS3 hl2; grind
              have hq9 : ([sO cy hh a kk dd b w ee qq ik, ia cy (hh 1) 7 (upd C 5 (C 5 + 1))] ++ (shB cy qq bi si f)) = ([sO cy hh a kk dd b w ee qq ik, ia cy (hh 1) 7 (fnd C (cCopy bi si 2 x2 3 x4 x5))] ++ (shB cy qq bi si f)) := congrArg (fun z9 => [sO cy hh a kk dd b w ee qq ik, ia cy (hh 1) 7 z9] ++ (shB cy qq bi si f)) (show (upd C 5 (C 5 + 1)) = (fnd C (cCopy bi si 2 x2 3 x4 x5)) from fnd_f hcd (by decide))
              replace hP3 := (congrArg (fun z9 => va_P D vwCl z9 _) hq9).mp hP3
              replace hD3 := (congrArg (fun z9 => va_D _ z9) hq9).mp hD3
              clear hq9
              have hq9 : ([sO cy hh a kk dd b w ee qq ik, ia cy (hh 1) 7 (fnd C (cCopy bi si 2 x2 3 x4 x5))] ++ (shB cy qq bi si f)) = ([sO cy hh a kk dd b w ee qq ik, ia cy (hh 1) 7 (fnd C (cCopy bi si 2 x2 3 x4 x5))] ++ (shB cy qq bi si (if cCopy bi si 2 x2 3 x4 x5 = 7 then va_up f (bstN 3) (va_cpy (f (bstN 2)) (f (bstN 3)) (bstN x2) (bstN x4) (bstN x5)) else f))) := congrArg (fun z9 => [sO cy hh a kk dd b w ee qq ik, ia cy (hh 1) 7 (fnd C (cCopy bi si 2 x2 3 x4 x5))] ++ (shB cy qq bi si z9)) (show f = (if cCopy bi si 2 x2 3 x4 x5 = 7 then va_up f (bstN 3) (va_cpy (f (bstN 2)) (f (bstN 3)) (bstN x2) (bstN x4) (bstN x5)) else f) from (if_neg (fun z9 => absurd (hcd.symm.trans z9) (by decide))).symm)
              replace hP3 := (congrArg (fun z9 => va_P D vwCl z9 _) hq9).mp hP3
              replace hD3 := (congrArg (fun z9 => va_D _ z9) hq9).mp hD3
              clear hq9
              refine re_i () hx hb hr hlocks hP3 hD3 hS3 dX6_copy_59 ?_
              exact (ans_f hcd (by decide) rfl)
      · replace hP2 : va_P D vwCl ([sO cy hh a kk dd b w ee qq ik, ia cy (hh 1) 7 C, qsB cy qq, hO cy (qq 1) (qq 5) (bi 0) (si 0), hO cy (qq 2) (qq 6) (bi 1) (si 1), hO cy (qq 3) (qq 7) (bi 2) (si 2), hO cy (qq 4) (qq 8) (bi 3) (si 3), la cy (qq 5) 40 (f 0), la cy (qq 6) 40 (f 1), la cy (qq 7) 40 (f 2), la cy (qq 8) 40 (f 3)]) H2 := hP2
        replace hD2 : va_D (va_A _ sz) ([sO cy hh a kk dd b w ee qq ik, ia cy (hh 1) 7 C, qsB cy qq, hO cy (qq 1) (qq 5) (bi 0) (si 0), hO cy (qq 2) (qq 6) (bi 1) (si 1), hO cy (qq 3) (qq 7) (bi 2) (si 2), hO cy (qq 4) (qq 8) (bi 3) (si 3), la cy (qq 5) 40 (f 0), la cy (qq 6) 40 (f 1), la cy (qq 7) 40 (f 2), la cy (qq 8) 40 (f 3)]) := hD2
        refine lv_aload_n hx hb dX6_copy_22 rfl (lv_at hl0 0 rfl) ?_
        refine va_get (D := D) (ci := 6) (v := .ref (qq 0)) (C := RX6) (T := TX6) (N := 9) hx hb hw iX6 hown hK hP2 0 rfl rfl 7 (by decide) (hw _ kw_2_34) (fun _ h9 => h9) rfl dX6_copy_23 ?_
        refine lv_iload_n hx hb dX6_copy_26 rfl (lv_at hl0 1 rfl) ?_
        refine ald_q hx hb hK hP2 2 3 rfl rfl rfl 3 rfl (by first | omega | assumption) (by decide) (rfl) dX6_copy_27 ?_
        refine lv_astore (lv' := [(6, .ref (qq 4)), (0, .ref (hh 0)), (1, .int 3), (2, .int x2), (3, .int x3), (4, .int x4), (5, .int x5)]) hx hb dX6_copy_28 hl0 (by decide) rfl (fun ls1 hl1 => ?_)
        clear hl0 ls0
        refine lv_aload_n hx hb dX6_copy_30 rfl (lv_at hl1 1 rfl) ?_
        refine va_get (D := D) (ci := 6) (v := .ref (qq 0)) (C := RX6) (T := TX6) (N := 9) hx hb hw iX6 hown hK hP2 0 rfl rfl 7 (by decide) (hw _ kw_2_34) (fun _ h9 => h9) rfl dX6_copy_31 ?_
        rcases in3 c_13 with rfl | rfl | rfl | rfl
        · refine lv_iload_n hx hb dX6_copy_34 rfl (lv_at hl1 4 rfl) ?_
          refine ald_q hx hb hK hP2 2 3 rfl rfl rfl 0 rfl (by first | omega | assumption) (by decide) (rfl) dX6_copy_35 ?_
          refine lv_astore (lv' := [(7, .ref (qq 1)), (6, .ref (qq 4)), (0, .ref (hh 0)), (1, .int 3), (2, .int x2), (3, .int 0), (4, .int x4), (5, .int x5)]) hx hb dX6_copy_36 hl1 (by decide) rfl (fun ls2 hl2 => ?_)
          clear hl1 ls1
          refine lv_aload hx hb dX6_copy_38 (lv_at hl2 1 rfl) ?_
          refine va_get (D := D) (ci := 2) (v := .int (bi 3)) (C := RX2) (T := TX2) (N := 3) hx hb hw iX2 hown hK hP2 6 rfl rfl 1 (by decide) (hw _ kw_2_16) (fun _ h9 => h9) rfl dX6_copy_40 ?_
          refine lv_if_eq (tgt := 54) hx hb dX6_copy_43 (by decide) (fun c_43 => ?_) (fun c_43 => ?_)
          · replace hP2 : va_P D vwCl ([sO cy hh a kk dd b w ee qq ik, ia cy (hh 1) 7 C] ++ (shB cy qq bi si f)) H2 := hP2
            replace hD2 : va_D (va_A _ sz) ([sO cy hh a kk dd b w ee qq ik, ia cy (hh 1) 7 C] ++ (shB cy qq bi si f)) := hD2
            refine lv_aload_n hx hb dX6_copy_54 rfl (lv_at hl2 2 rfl) ?_
            refine lv_iconst (v := 5) hx hb dX6_copy_55 (by decide) ?_
            refine cV_i (wc := [sO cy hh a kk dd b w ee qq ik, ia cy (hh 1) 7 C]) (wr := shB cy qq bi si f) (rest := []) hx hb hml hown hw hG hK hP2 hD2 hS2 hA hl2 kc_X6_find kw_2_59 [.int 5] (c_X6_find l D cy G H2.size hh a kk dd b w ee qq ik C 5 (by first | omega | assumption)) [0, 1] [2, 3, 4, 5, 6, 7, 8, 9, 10] rfl rfl rfl rfl rfl 0 rfl rfl rfl rfl rfl (Nat.le_of_ble_eq_true rfl) ⟨Nat.le_of_ble_eq_true rfl, Nat.le_of_ble_eq_true rfl⟩ dX6_copy_56 ⟨Nat.le_of_ble_eq_true rfl, Nat.le_of_ble_eq_true rfl⟩ (fun r_56 u9 H3 locs3 hu9 hP3 hD3 hS3 => ?_)
            clear hP2 hD2 hS2 locs2 H2
            have hr_56 := hu9
            replace hP3 : va_P D vwCl (shB cy qq bi si f ++ ([sO cy hh a kk dd b w ee qq ik, ia cy (hh 1) 7 (upd C 5 (C 5 + 1))])) H3 := hP3
            replace hD3 : va_D (va_A _ sz) (shB cy qq bi si f ++ ([sO cy hh a kk dd b w ee qq ik, ia cy (hh 1) 7 (upd C 5 (C 5 + 1))])) := hD3
            replace hP3 := hP3.sub (ws' := [sO cy hh a kk dd b w ee qq ik, ia cy (hh 1) 7 (upd C 5 (C 5 + 1))] ++ (shB cy qq bi si f)) [9, 10, 0, 1, 2, 3, 4, 5, 6, 7, 8] rfl
            replace hD3 := hD3.sub (ws' := [sO cy hh a kk dd b w ee qq ik, ia cy (hh 1) 7 (upd C 5 (C 5 + 1))] ++ (shB cy qq bi si f)) [9, 10, 0, 1, 2, 3, 4, 5, 6, 7, 8] (by decide) rfl
            subst hr_56
            have hcd : cCopy bi si 3 x2 0 x4 x5 = 5 := by unfold cCopy; clear hx hb hml hown hr hlocks hw hsz hA hG hK hP3 hD3 hS3 hl2; grind
            have hq9 : ([sO cy hh a kk dd b w ee qq ik, ia cy (hh 1) 7 (upd C 5 (C 5 + 1))] ++ (shB cy qq bi si f)) = ([sO cy hh a kk dd b w ee qq ik, ia cy (hh 1) 7 (fnd C (cCopy bi si 3 x2 0 x4 x5))] ++ (shB cy qq bi si f)) := congrArg (fun z9 => [sO cy hh a kk dd b w ee qq ik, ia cy (hh 1) 7 z9] ++ (shB cy qq bi si f)) (show (upd C 5 (C 5 + 1)) = (fnd C (cCopy bi si 3 x2 0 x4 x5)) from fnd_f hcd (by decide))
            replace hP3 := (congrArg (fun z9 => va_P D vwCl z9 _) hq9).mp hP3
            replace hD3 := (congrArg (fun z9 => va_D _ z9) hq9).mp hD3
            clear hq9
            have hq9 : ([sO cy hh a kk dd b w ee qq ik, ia cy (hh 1) 7 (fnd C (cCopy bi si 3 x2 0 x4 x5))] ++ (shB cy qq bi si f)) = ([sO cy hh a kk dd b w ee qq ik, ia cy (hh 1) 7 (fnd C (cCopy bi si 3 x2 0 x4 x5))] ++ (shB cy qq bi si (if cCopy bi si 3 x2 0 x4 x5 = 7 then va_up f (bstN 0) (va_cpy (f (bstN 3)) (f (bstN 0)) (bstN x2) (bstN x4) (bstN x5)) else f))) := congrArg (fun z9 => [sO cy hh a kk dd b w ee qq ik, ia cy (hh 1) 7 (fnd C (cCopy bi si 3 x2 0 x4 x5))] ++ (shB cy qq bi si z9)) (show f = (if cCopy bi si 3 x2 0 x4 x5 = 7 then va_up f (bstN 0) (va_cpy (f (bstN 3)) (f (bstN 0)) (bstN x2) (bstN x4) (bstN x5)) else f) from (if_neg (fun z9 => absurd (hcd.symm.trans z9) (by decide))).symm)
            replace hP3 := (congrArg (fun z9 => va_P D vwCl z9 _) hq9).mp hP3
            replace hD3 := (congrArg (fun z9 => va_D _ z9) hq9).mp hD3
            clear hq9
            refine re_i () hx hb hr hlocks hP3 hD3 hS3 dX6_copy_59 ?_
            exact (ans_f hcd (by decide) rfl)
          · refine lv_aload hx hb dX6_copy_46 (lv_at hl2 0 rfl) ?_
            refine va_get (D := D) (ci := 2) (v := .int (bi 0)) (C := RX2) (T := TX2) (N := 3) hx hb hw iX2 hown hK hP2 3 rfl rfl 1 (by decide) (hw _ kw_2_16) (fun _ h9 => h9) rfl dX6_copy_48 ?_
            refine lv_if_ne (tgt := 60) hx hb dX6_copy_51 (by decide) (fun c_51 => ?_) (fun c_51 => ?_)
            · refine lv_aload hx hb dX6_copy_60 (lv_at hl2 1 rfl) ?_
              refine va_get (D := D) (ci := 2) (v := .int (bi 3)) (C := RX2) (T := TX2) (N := 3) hx hb hw iX2 hown hK hP2 6 rfl rfl 1 (by decide) (hw _ kw_2_16) (fun _ h9 => h9) rfl dX6_copy_62 ?_
              refine lv_aload hx hb dX6_copy_65 (lv_at hl2 0 rfl) ?_
              refine va_get (D := D) (ci := 2) (v := .int (bi 0)) (C := RX2) (T := TX2) (N := 3) hx hb hw iX2 hown hK hP2 3 rfl rfl 1 (by decide) (hw _ kw_2_16) (fun _ h9 => h9) rfl dX6_copy_67 ?_
              refine lv_icmp_eq (tgt := 79) hx hb dX6_copy_70 (by decide) (fun c_70 => ?_) (fun c_70 => ?_)
              · refine lv_aload hx hb dX6_copy_79 (lv_at hl2 1 rfl) ?_
                refine lv_iload_n hx hb dX6_copy_81 rfl (lv_at hl2 4 rfl) ?_
                refine lv_iload hx hb dX6_copy_82 (lv_at hl2 7 rfl) ?_
                refine rV_i (wc := [hO cy (qq 4) (qq 8) (bi 3) (si 3), la cy (qq 8) 40 (f 3)]) (rest := []) hx hb hml hown hw hG hK hP2 hS2 hA hl2 kc_X2_hasRow kw_4_12 [.int x2, .int x5] (c_X2_hasRow l D cy G H2.size (qq 4) (qq 8) (bi 3) (si 3) (f 3) x2 x5) [6, 10] rfl 0 rfl rfl rfl rfl rfl (Nat.le_of_ble_eq_true rfl) ⟨Nat.le_of_ble_eq_true rfl, Nat.le_of_ble_eq_true rfl⟩ dX6_copy_84 ⟨Nat.le_of_ble_eq_true rfl, Nat.le_of_ble_eq_true rfl⟩ (fun r_84 H3 locs3 hr_84 hP3 hS3 => ?_)
                have hD3 := hD2
                clear hP2 hD2 hS2 locs2 H2
                subst hr_84
                refine lb_eq (tgt := 102) hx hb dX6_copy_87 (by decide) (fun c_87 => ?_) (fun c_87 => ?_)
                · replace hP3 : va_P D vwCl ([sO cy hh a kk dd b w ee qq ik, ia cy (hh 1) 7 C] ++ (shB cy qq bi si f)) H3 := hP3
                  replace hD3 : va_D (va_A _ sz) ([sO cy hh a kk dd b w ee qq ik, ia cy (hh 1) 7 C] ++ (shB cy qq bi si f)) := hD3
                  refine lv_aload_n hx hb dX6_copy_102 rfl (lv_at hl2 2 rfl) ?_
                  refine lv_iconst (v := 0) hx hb dX6_copy_103 (by decide) ?_
                  refine cV_i (wc := [sO cy hh a kk dd b w ee qq ik, ia cy (hh 1) 7 C]) (wr := shB cy qq bi si f) (rest := []) hx hb hml hown hw hG hK hP3 hD3 hS3 hA hl2 kc_X6_find kw_2_59 [.int 0] (c_X6_find l D cy G H3.size hh a kk dd b w ee qq ik C 0 (by first | omega | assumption)) [0, 1] [2, 3, 4, 5, 6, 7, 8, 9, 10] rfl rfl rfl rfl rfl 0 rfl rfl rfl rfl rfl (Nat.le_of_ble_eq_true rfl) ⟨Nat.le_of_ble_eq_true rfl, Nat.le_of_ble_eq_true rfl⟩ dX6_copy_104 ⟨Nat.le_of_ble_eq_true rfl, Nat.le_of_ble_eq_true rfl⟩ (fun r_104 u9 H4 locs4 hu9 hP4 hD4 hS4 => ?_)
                  clear hP3 hD3 hS3 locs3 H3
                  have hr_104 := hu9
                  replace hP4 : va_P D vwCl (shB cy qq bi si f ++ ([sO cy hh a kk dd b w ee qq ik, ia cy (hh 1) 7 (upd C 0 (C 0 + 1))])) H4 := hP4
                  replace hD4 : va_D (va_A _ sz) (shB cy qq bi si f ++ ([sO cy hh a kk dd b w ee qq ik, ia cy (hh 1) 7 (upd C 0 (C 0 + 1))])) := hD4
                  replace hP4 := hP4.sub (ws' := [sO cy hh a kk dd b w ee qq ik, ia cy (hh 1) 7 (upd C 0 (C 0 + 1))] ++ (shB cy qq bi si f)) [9, 10, 0, 1, 2, 3, 4, 5, 6, 7, 8] rfl
                  replace hD4 := hD4.sub (ws' := [sO cy hh a kk dd b w ee qq ik, ia cy (hh 1) 7 (upd C 0 (C 0 + 1))] ++ (shB cy qq bi si f)) [9, 10, 0, 1, 2, 3, 4, 5, 6, 7, 8] (by decide) rfl
                  subst hr_104
                  have hcd : cCopy bi si 3 x2 0 x4 x5 = 0 := by unfold cCopy; clear hx hb hml hown hr hlocks hw hsz hA hG hK hP4 hD4 hS4 hl2; grind
                  have hq9 : ([sO cy hh a kk dd b w ee qq ik, ia cy (hh 1) 7 (upd C 0 (C 0 + 1))] ++ (shB cy qq bi si f)) = ([sO cy hh a kk dd b w ee qq ik, ia cy (hh 1) 7 (fnd C (cCopy bi si 3 x2 0 x4 x5))] ++ (shB cy qq bi si f)) := congrArg (fun z9 => [sO cy hh a kk dd b w ee qq ik, ia cy (hh 1) 7 z9] ++ (shB cy qq bi si f)) (show (upd C 0 (C 0 + 1)) = (fnd C (cCopy bi si 3 x2 0 x4 x5)) from fnd_f hcd (by decide))
                  replace hP4 := (congrArg (fun z9 => va_P D vwCl z9 _) hq9).mp hP4
                  replace hD4 := (congrArg (fun z9 => va_D _ z9) hq9).mp hD4
                  clear hq9
                  have hq9 : ([sO cy hh a kk dd b w ee qq ik, ia cy (hh 1) 7 (fnd C (cCopy bi si 3 x2 0 x4 x5))] ++ (shB cy qq bi si f)) = ([sO cy hh a kk dd b w ee qq ik, ia cy (hh 1) 7 (fnd C (cCopy bi si 3 x2 0 x4 x5))] ++ (shB cy qq bi si (if cCopy bi si 3 x2 0 x4 x5 = 7 then va_up f (bstN 0) (va_cpy (f (bstN 3)) (f (bstN 0)) (bstN x2) (bstN x4) (bstN x5)) else f))) := congrArg (fun z9 => [sO cy hh a kk dd b w ee qq ik, ia cy (hh 1) 7 (fnd C (cCopy bi si 3 x2 0 x4 x5))] ++ (shB cy qq bi si z9)) (show f = (if cCopy bi si 3 x2 0 x4 x5 = 7 then va_up f (bstN 0) (va_cpy (f (bstN 3)) (f (bstN 0)) (bstN x2) (bstN x4) (bstN x5)) else f) from (if_neg (fun z9 => absurd (hcd.symm.trans z9) (by decide))).symm)
                  replace hP4 := (congrArg (fun z9 => va_P D vwCl z9 _) hq9).mp hP4
                  replace hD4 := (congrArg (fun z9 => va_D _ z9) hq9).mp hD4
                  clear hq9
                  refine re_i () hx hb hr hlocks hP4 hD4 hS4 dX6_copy_107 ?_
                  exact (ans_f hcd (by decide) rfl)
                · refine lv_aload hx hb dX6_copy_90 (lv_at hl2 0 rfl) ?_
                  refine lv_iload hx hb dX6_copy_92 (lv_at hl2 6 rfl) ?_
                  refine lv_iload hx hb dX6_copy_94 (lv_at hl2 7 rfl) ?_
                  refine rV_i (wc := [hO cy (qq 1) (qq 5) (bi 0) (si 0), la cy (qq 5) 40 (f 0)]) (rest := []) hx hb hml hown hw hG hK hP3 hS3 hA hl2 kc_X2_hasRow kw_4_12 [.int x4, .int x5] (c_X2_hasRow l D cy G H3.size (qq 1) (qq 5) (bi 0) (si 0) (f 0) x4 x5) [3, 7] rfl 0 rfl rfl rfl rfl rfl (Nat.le_of_ble_eq_true rfl) ⟨Nat.le_of_ble_eq_true rfl, Nat.le_of_ble_eq_true rfl⟩ dX6_copy_96 ⟨Nat.le_of_ble_eq_true rfl, Nat.le_of_ble_eq_true rfl⟩ (fun r_96 H4 locs4 hr_96 hP4 hS4 => ?_)
                  have hD4 := hD3
                  clear hP3 hD3 hS3 locs3 H3
                  subst hr_96
                  refine lb_ne (tgt := 108) hx hb dX6_copy_99 (by decide) (fun c_99 => ?_) (fun c_99 => ?_)
                  · have h8 := c_87
                    rw [(hso 3 (by decide)).1] at h8
                    have h9 := c_99
                    rw [(hso 0 (by decide)).1] at h9
                    obtain ⟨a1, n1, hab, rfl, rfl⟩ := row_at (by omega) h8
                    obtain ⟨a2, n2, hab2, rfl, e4⟩ := row_at (by omega) h9
                    obtain rfl : n1 = n2 := (nI_eq (by omega) (by omega)).mp e4
                    have hba1 : bstN (nI a1) = a1 := bst_n (by omega)
                    have hba2 : bstN (nI a2) = a2 := bst_n (by omega)
                    have hbn : bstN (nI n1) = n1 := bst_n (by omega)
                    refine lv_aload hx hb dX6_copy_108 (lv_at hl2 1 rfl) ?_
                    refine va_get (D := D) (ci := 2) (v := .ref (qq 8)) (C := RX2) (T := TX2) (N := 3) hx hb hw iX2 hown hK hP4 6 rfl rfl 0 (by decide) (hw _ kw_2_14) (fun _ h9 => h9) rfl dX6_copy_110 ?_
                    refine lv_iload_n hx hb dX6_copy_113 rfl (lv_at hl2 4 rfl) ?_
                    refine lv_aload hx hb dX6_copy_114 (lv_at hl2 0 rfl) ?_
                    refine va_get (D := D) (ci := 2) (v := .ref (qq 5)) (C := RX2) (T := TX2) (N := 3) hx hb hw iX2 hown hK hP4 3 rfl rfl 0 (by decide) (hw _ kw_2_14) (fun _ h9 => h9) rfl dX6_copy_116 ?_
                    refine lv_iload hx hb dX6_copy_119 (lv_at hl2 6 rfl) ?_
                    refine lv_iload hx hb dX6_copy_121 (lv_at hl2 7 rfl) ?_
                    refine acpL (f := f 3) (g := f 0) (ws' := [sO cy hh a kk dd b w ee qq ik, ia cy (hh 1) 7 C, qsB cy qq, hO cy (qq 1) (qq 5) (bi 0) (si 0), hO cy (qq 2) (qq 6) (bi 1) (si 1), hO cy (qq 3) (qq 7) (bi 2) (si 2), hO cy (qq 4) (qq 8) (bi 3) (si 3), la cy (qq 5) 40 (va_cpy (f 3) (f 0) a1 a2 n1), la cy (qq 6) 40 (f 1), la cy (qq 7) 40 (f 2), la cy (qq 8) 40 (f 3)]) hx hb hml hl2 hw hown kw_4_16 kw_2_162 kw_2_161 kw_1_9 hK hP4 hD4 hS4 10 7 1 rfl rfl rfl a1 a2 n1 rfl rfl rfl (by omega) (by omega) (by omega) (by first | decide | omega) (by first | decide | omega) rfl (Nat.le_of_ble_eq_true rfl) (Nat.le_of_ble_eq_true rfl) dX6_copy_123 (fun H5 locs5 hP5 hD5 hS5 => ?_)
                    clear hP4 hD4 hS4 locs4 H4
                    replace hP5 : va_P D vwCl ([sO cy hh a kk dd b w ee qq ik, ia cy (hh 1) 7 C] ++ (shB cy qq bi si (va_up f 0 (va_cpy (f 3) (f 0) a1 a2 n1)))) H5 := hP5
                    replace hD5 : va_D (va_A _ sz) ([sO cy hh a kk dd b w ee qq ik, ia cy (hh 1) 7 C] ++ (shB cy qq bi si (va_up f 0 (va_cpy (f 3) (f 0) a1 a2 n1)))) := hD5
                    refine lv_iload hx hb dX6_copy_126 (lv_at hl2 7 rfl) ?_
                    have hcd : cCopy bi si 3 (nI a1) 0 (nI a2) (nI n1) = 7 := by unfold cCopy; clear hx hb hml hown hr hlocks hw hsz hA hG hK hP5 hD5 hS5 hl2; grind
                    have hq9 : ([sO cy hh a kk dd b w ee qq ik, ia cy (hh 1) 7 C] ++ (shB cy qq bi si (va_up f 0 (va_cpy (f 3) (f 0) a1 a2 n1)))) = ([sO cy hh a kk dd b w ee qq ik, ia cy (hh 1) 7 (fnd C (cCopy bi si 3 (nI a1) 0 (nI a2) (nI n1)))] ++ (shB cy qq bi si (va_up f 0 (va_cpy (f 3) (f 0) a1 a2 n1)))) := congrArg (fun z9 => [sO cy hh a kk dd b w ee qq ik, ia cy (hh 1) 7 z9] ++ (shB cy qq bi si (va_up f 0 (va_cpy (f 3) (f 0) a1 a2 n1)))) (show C = (fnd C (cCopy bi si 3 (nI a1) 0 (nI a2) (nI n1))) from fnd_o hcd)
                    replace hP5 := (congrArg (fun z9 => va_P D vwCl z9 _) hq9).mp hP5
                    replace hD5 := (congrArg (fun z9 => va_D _ z9) hq9).mp hD5
                    clear hq9
                    have hq9 : ([sO cy hh a kk dd b w ee qq ik, ia cy (hh 1) 7 (fnd C (cCopy bi si 3 (nI a1) 0 (nI a2) (nI n1)))] ++ (shB cy qq bi si (va_up f 0 (va_cpy (f 3) (f 0) a1 a2 n1)))) = ([sO cy hh a kk dd b w ee qq ik, ia cy (hh 1) 7 (fnd C (cCopy bi si 3 (nI a1) 0 (nI a2) (nI n1)))] ++ (shB cy qq bi si (if cCopy bi si 3 (nI a1) 0 (nI a2) (nI n1) = 7 then va_up f (bstN 0) (va_cpy (f (bstN 3)) (f (bstN 0)) (bstN (nI a1)) (bstN (nI a2)) (bstN (nI n1))) else f))) := congrArg (fun z9 => [sO cy hh a kk dd b w ee qq ik, ia cy (hh 1) 7 (fnd C (cCopy bi si 3 (nI a1) 0 (nI a2) (nI n1)))] ++ (shB cy qq bi si z9)) (show (va_up f 0 (va_cpy (f 3) (f 0) a1 a2 n1)) = (if cCopy bi si 3 (nI a1) 0 (nI a2) (nI n1) = 7 then va_up f (bstN 0) (va_cpy (f (bstN 3)) (f (bstN 0)) (bstN (nI a1)) (bstN (nI a2)) (bstN (nI n1))) else f) from by rw [if_pos hcd]; simp only [hba1, hba2, hbn, hb0, hb1, hb2, hb3])
                    replace hP5 := (congrArg (fun z9 => va_P D vwCl z9 _) hq9).mp hP5
                    replace hD5 := (congrArg (fun z9 => va_D _ z9) hq9).mp hD5
                    clear hq9
                    refine re_i () hx hb hr hlocks hP5 hD5 hS5 dX6_copy_128 ?_
                    exact (ans_o hcd (rfl))
                  · replace hP4 : va_P D vwCl ([sO cy hh a kk dd b w ee qq ik, ia cy (hh 1) 7 C] ++ (shB cy qq bi si f)) H4 := hP4
                    replace hD4 : va_D (va_A _ sz) ([sO cy hh a kk dd b w ee qq ik, ia cy (hh 1) 7 C] ++ (shB cy qq bi si f)) := hD4
                    refine lv_aload_n hx hb dX6_copy_102 rfl (lv_at hl2 2 rfl) ?_
                    refine lv_iconst (v := 0) hx hb dX6_copy_103 (by decide) ?_
                    refine cV_i (wc := [sO cy hh a kk dd b w ee qq ik, ia cy (hh 1) 7 C]) (wr := shB cy qq bi si f) (rest := []) hx hb hml hown hw hG hK hP4 hD4 hS4 hA hl2 kc_X6_find kw_2_59 [.int 0] (c_X6_find l D cy G H4.size hh a kk dd b w ee qq ik C 0 (by first | omega | assumption)) [0, 1] [2, 3, 4, 5, 6, 7, 8, 9, 10] rfl rfl rfl rfl rfl 0 rfl rfl rfl rfl rfl (Nat.le_of_ble_eq_true rfl) ⟨Nat.le_of_ble_eq_true rfl, Nat.le_of_ble_eq_true rfl⟩ dX6_copy_104 ⟨Nat.le_of_ble_eq_true rfl, Nat.le_of_ble_eq_true rfl⟩ (fun r_104 u9 H5 locs5 hu9 hP5 hD5 hS5 => ?_)
                    clear hP4 hD4 hS4 locs4 H4
                    have hr_104 := hu9
                    replace hP5 : va_P D vwCl (shB cy qq bi si f ++ ([sO cy hh a kk dd b w ee qq ik, ia cy (hh 1) 7 (upd C 0 (C 0 + 1))])) H5 := hP5
                    replace hD5 : va_D (va_A _ sz) (shB cy qq bi si f ++ ([sO cy hh a kk dd b w ee qq ik, ia cy (hh 1) 7 (upd C 0 (C 0 + 1))])) := hD5
                    replace hP5 := hP5.sub (ws' := [sO cy hh a kk dd b w ee qq ik, ia cy (hh 1) 7 (upd C 0 (C 0 + 1))] ++ (shB cy qq bi si f)) [9, 10, 0, 1, 2, 3, 4, 5, 6, 7, 8] rfl
                    replace hD5 := hD5.sub (ws' := [sO cy hh a kk dd b w ee qq ik, ia cy (hh 1) 7 (upd C 0 (C 0 + 1))] ++ (shB cy qq bi si f)) [9, 10, 0, 1, 2, 3, 4, 5, 6, 7, 8] (by decide) rfl
                    subst hr_104
                    have hcd : cCopy bi si 3 x2 0 x4 x5 = 0 := by unfold cCopy; clear hx hb hml hown hr hlocks hw hsz hA hG hK hP5 hD5 hS5 hl2; grind
                    have hq9 : ([sO cy hh a kk dd b w ee qq ik, ia cy (hh 1) 7 (upd C 0 (C 0 + 1))] ++ (shB cy qq bi si f)) = ([sO cy hh a kk dd b w ee qq ik, ia cy (hh 1) 7 (fnd C (cCopy bi si 3 x2 0 x4 x5))] ++ (shB cy qq bi si f)) := congrArg (fun z9 => [sO cy hh a kk dd b w ee qq ik, ia cy (hh 1) 7 z9] ++ (shB cy qq bi si f)) (show (upd C 0 (C 0 + 1)) = (fnd C (cCopy bi si 3 x2 0 x4 x5)) from fnd_f hcd (by decide))
                    replace hP5 := (congrArg (fun z9 => va_P D vwCl z9 _) hq9).mp hP5
                    replace hD5 := (congrArg (fun z9 => va_D _ z9) hq9).mp hD5
                    clear hq9
                    have hq9 : ([sO cy hh a kk dd b w ee qq ik, ia cy (hh 1) 7 (fnd C (cCopy bi si 3 x2 0 x4 x5))] ++ (shB cy qq bi si f)) = ([sO cy hh a kk dd b w ee qq ik, ia cy (hh 1) 7 (fnd C (cCopy bi si 3 x2 0 x4 x5))] ++ (shB cy qq bi si (if cCopy bi si 3 x2 0 x4 x5 = 7 then va_up f (bstN 0) (va_cpy (f (bstN 3)) (f (bstN 0)) (bstN x2) (bstN x4) (bstN x5)) else f))) := congrArg (fun z9 => [sO cy hh a kk dd b w ee qq ik, ia cy (hh 1) 7 (fnd C (cCopy bi si 3 x2 0 x4 x5))] ++ (shB cy qq bi si z9)) (show f = (if cCopy bi si 3 x2 0 x4 x5 = 7 then va_up f (bstN 0) (va_cpy (f (bstN 3)) (f (bstN 0)) (bstN x2) (bstN x4) (bstN x5)) else f) from (if_neg (fun z9 => absurd (hcd.symm.trans z9) (by decide))).symm)
                    replace hP5 := (congrArg (fun z9 => va_P D vwCl z9 _) hq9).mp hP5
                    replace hD5 := (congrArg (fun z9 => va_D _ z9) hq9).mp hD5
                    clear hq9
                    refine re_i () hx hb hr hlocks hP5 hD5 hS5 dX6_copy_107 ?_
                    exact (ans_f hcd (by decide) rfl)
              · replace hP2 : va_P D vwCl ([sO cy hh a kk dd b w ee qq ik, ia cy (hh 1) 7 C] ++ (shB cy qq bi si f)) H2 := hP2
                replace hD2 : va_D (va_A _ sz) ([sO cy hh a kk dd b w ee qq ik, ia cy (hh 1) 7 C] ++ (shB cy qq bi si f)) := hD2
                refine lv_aload_n hx hb dX6_copy_73 rfl (lv_at hl2 2 rfl) ?_
                refine lv_iconst (v := 2) hx hb dX6_copy_74 (by decide) ?_
                refine cV_i (wc := [sO cy hh a kk dd b w ee qq ik, ia cy (hh 1) 7 C]) (wr := shB cy qq bi si f) (rest := []) hx hb hml hown hw hG hK hP2 hD2 hS2 hA hl2 kc_X6_find kw_2_59 [.int 2] (c_X6_find l D cy G H2.size hh a kk dd b w ee qq ik C 2 (by first | omega | assumption)) [0, 1] [2, 3, 4, 5, 6, 7, 8, 9, 10] rfl rfl rfl rfl rfl 0 rfl rfl rfl rfl rfl (Nat.le_of_ble_eq_true rfl) ⟨Nat.le_of_ble_eq_true rfl, Nat.le_of_ble_eq_true rfl⟩ dX6_copy_75 ⟨Nat.le_of_ble_eq_true rfl, Nat.le_of_ble_eq_true rfl⟩ (fun r_75 u9 H3 locs3 hu9 hP3 hD3 hS3 => ?_)
                clear hP2 hD2 hS2 locs2 H2
                have hr_75 := hu9
                replace hP3 : va_P D vwCl (shB cy qq bi si f ++ ([sO cy hh a kk dd b w ee qq ik, ia cy (hh 1) 7 (upd C 2 (C 2 + 1))])) H3 := hP3
                replace hD3 : va_D (va_A _ sz) (shB cy qq bi si f ++ ([sO cy hh a kk dd b w ee qq ik, ia cy (hh 1) 7 (upd C 2 (C 2 + 1))])) := hD3
                replace hP3 := hP3.sub (ws' := [sO cy hh a kk dd b w ee qq ik, ia cy (hh 1) 7 (upd C 2 (C 2 + 1))] ++ (shB cy qq bi si f)) [9, 10, 0, 1, 2, 3, 4, 5, 6, 7, 8] rfl
                replace hD3 := hD3.sub (ws' := [sO cy hh a kk dd b w ee qq ik, ia cy (hh 1) 7 (upd C 2 (C 2 + 1))] ++ (shB cy qq bi si f)) [9, 10, 0, 1, 2, 3, 4, 5, 6, 7, 8] (by decide) rfl
                subst hr_75
                have hcd : cCopy bi si 3 x2 0 x4 x5 = 2 := by unfold cCopy; clear hx hb hml hown hr hlocks hw hsz hA hG hK hP3 hD3 hS3 hl2; grind
                have hq9 : ([sO cy hh a kk dd b w ee qq ik, ia cy (hh 1) 7 (upd C 2 (C 2 + 1))] ++ (shB cy qq bi si f)) = ([sO cy hh a kk dd b w ee qq ik, ia cy (hh 1) 7 (fnd C (cCopy bi si 3 x2 0 x4 x5))] ++ (shB cy qq bi si f)) := congrArg (fun z9 => [sO cy hh a kk dd b w ee qq ik, ia cy (hh 1) 7 z9] ++ (shB cy qq bi si f)) (show (upd C 2 (C 2 + 1)) = (fnd C (cCopy bi si 3 x2 0 x4 x5)) from fnd_f hcd (by decide))
                replace hP3 := (congrArg (fun z9 => va_P D vwCl z9 _) hq9).mp hP3
                replace hD3 := (congrArg (fun z9 => va_D _ z9) hq9).mp hD3
                clear hq9
                have hq9 : ([sO cy hh a kk dd b w ee qq ik, ia cy (hh 1) 7 (fnd C (cCopy bi si 3 x2 0 x4 x5))] ++ (shB cy qq bi si f)) = ([sO cy hh a kk dd b w ee qq ik, ia cy (hh 1) 7 (fnd C (cCopy bi si 3 x2 0 x4 x5))] ++ (shB cy qq bi si (if cCopy bi si 3 x2 0 x4 x5 = 7 then va_up f (bstN 0) (va_cpy (f (bstN 3)) (f (bstN 0)) (bstN x2) (bstN x4) (bstN x5)) else f))) := congrArg (fun z9 => [sO cy hh a kk dd b w ee qq ik, ia cy (hh 1) 7 (fnd C (cCopy bi si 3 x2 0 x4 x5))] ++ (shB cy qq bi si z9)) (show f = (if cCopy bi si 3 x2 0 x4 x5 = 7 then va_up f (bstN 0) (va_cpy (f (bstN 3)) (f (bstN 0)) (bstN x2) (bstN x4) (bstN x5)) else f) from (if_neg (fun z9 => absurd (hcd.symm.trans z9) (by decide))).symm)
                replace hP3 := (congrArg (fun z9 => va_P D vwCl z9 _) hq9).mp hP3
                replace hD3 := (congrArg (fun z9 => va_D _ z9) hq9).mp hD3
                clear hq9
                refine re_i () hx hb hr hlocks hP3 hD3 hS3 dX6_copy_78 ?_
                exact (ans_f hcd (by decide) rfl)
            · replace hP2 : va_P D vwCl ([sO cy hh a kk dd b w ee qq ik, ia cy (hh 1) 7 C] ++ (shB cy qq bi si f)) H2 := hP2
              replace hD2 : va_D (va_A _ sz) ([sO cy hh a kk dd b w ee qq ik, ia cy (hh 1) 7 C] ++ (shB cy qq bi si f)) := hD2
              refine lv_aload_n hx hb dX6_copy_54 rfl (lv_at hl2 2 rfl) ?_
              refine lv_iconst (v := 5) hx hb dX6_copy_55 (by decide) ?_
              refine cV_i (wc := [sO cy hh a kk dd b w ee qq ik, ia cy (hh 1) 7 C]) (wr := shB cy qq bi si f) (rest := []) hx hb hml hown hw hG hK hP2 hD2 hS2 hA hl2 kc_X6_find kw_2_59 [.int 5] (c_X6_find l D cy G H2.size hh a kk dd b w ee qq ik C 5 (by first | omega | assumption)) [0, 1] [2, 3, 4, 5, 6, 7, 8, 9, 10] rfl rfl rfl rfl rfl 0 rfl rfl rfl rfl rfl (Nat.le_of_ble_eq_true rfl) ⟨Nat.le_of_ble_eq_true rfl, Nat.le_of_ble_eq_true rfl⟩ dX6_copy_56 ⟨Nat.le_of_ble_eq_true rfl, Nat.le_of_ble_eq_true rfl⟩ (fun r_56 u9 H3 locs3 hu9 hP3 hD3 hS3 => ?_)
              clear hP2 hD2 hS2 locs2 H2
              have hr_56 := hu9
              replace hP3 : va_P D vwCl (shB cy qq bi si f ++ ([sO cy hh a kk dd b w ee qq ik, ia cy (hh 1) 7 (upd C 5 (C 5 + 1))])) H3 := hP3
              replace hD3 : va_D (va_A _ sz) (shB cy qq bi si f ++ ([sO cy hh a kk dd b w ee qq ik, ia cy (hh 1) 7 (upd C 5 (C 5 + 1))])) := hD3
              replace hP3 := hP3.sub (ws' := [sO cy hh a kk dd b w ee qq ik, ia cy (hh 1) 7 (upd C 5 (C 5 + 1))] ++ (shB cy qq bi si f)) [9, 10, 0, 1, 2, 3, 4, 5, 6, 7, 8] rfl
              replace hD3 := hD3.sub (ws' := [sO cy hh a kk dd b w ee qq ik, ia cy (hh 1) 7 (upd C 5 (C 5 + 1))] ++ (shB cy qq bi si f)) [9, 10, 0, 1, 2, 3, 4, 5, 6, 7, 8] (by decide) rfl
              subst hr_56
              have hcd : cCopy bi si 3 x2 0 x4 x5 = 5 := by unfold cCopy; clear hx hb hml hown hr hlocks hw hsz hA hG hK hP3 hD3 hS3 hl2; grind
              have hq9 : ([sO cy hh a kk dd b w ee qq ik, ia cy (hh 1) 7 (upd C 5 (C 5 + 1))] ++ (shB cy qq bi si f)) = ([sO cy hh a kk dd b w ee qq ik, ia cy (hh 1) 7 (fnd C (cCopy bi si 3 x2 0 x4 x5))] ++ (shB cy qq bi si f)) := congrArg (fun z9 => [sO cy hh a kk dd b w ee qq ik, ia cy (hh 1) 7 z9] ++ (shB cy qq bi si f)) (show (upd C 5 (C 5 + 1)) = (fnd C (cCopy bi si 3 x2 0 x4 x5)) from fnd_f hcd (by decide))
              replace hP3 := (congrArg (fun z9 => va_P D vwCl z9 _) hq9).mp hP3
              replace hD3 := (congrArg (fun z9 => va_D _ z9) hq9).mp hD3
              clear hq9
              have hq9 : ([sO cy hh a kk dd b w ee qq ik, ia cy (hh 1) 7 (fnd C (cCopy bi si 3 x2 0 x4 x5))] ++ (shB cy qq bi si f)) = ([sO cy hh a kk dd b w ee qq ik, ia cy (hh 1) 7 (fnd C (cCopy bi si 3 x2 0 x4 x5))] ++ (shB cy qq bi si (if cCopy bi si 3 x2 0 x4 x5 = 7 then va_up f (bstN 0) (va_cpy (f (bstN 3)) (f (bstN 0)) (bstN x2) (bstN x4) (bstN x5)) else f))) := congrArg (fun z9 => [sO cy hh a kk dd b w ee qq ik, ia cy (hh 1) 7 (fnd C (cCopy bi si 3 x2 0 x4 x5))] ++ (shB cy qq bi si z9)) (show f = (if cCopy bi si 3 x2 0 x4 x5 = 7 then va_up f (bstN 0) (va_cpy (f (bstN 3)) (f (bstN 0)) (bstN x2) (bstN x4) (bstN x5)) else f) from (if_neg (fun z9 => absurd (hcd.symm.trans z9) (by decide))).symm)
              replace hP3 := (congrArg (fun z9 => va_P D vwCl z9 _) hq9).mp hP3
              replace hD3 := (congrArg (fun z9 => va_D _ z9) hq9).mp hD3
              clear hq9
              refine re_i () hx hb hr hlocks hP3 hD3 hS3 dX6_copy_59 ?_
              exact (ans_f hcd (by decide) rfl)
        · refine lv_iload_n hx hb dX6_copy_34 rfl (lv_at hl1 4 rfl) ?_
          refine ald_q hx hb hK hP2 2 3 rfl rfl rfl 1 rfl (by first | omega | assumption) (by decide) (rfl) dX6_copy_35 ?_
          refine lv_astore (lv' := [(7, .ref (qq 2)), (6, .ref (qq 4)), (0, .ref (hh 0)), (1, .int 3), (2, .int x2), (3, .int 1), (4, .int x4), (5, .int x5)]) hx hb dX6_copy_36 hl1 (by decide) rfl (fun ls2 hl2 => ?_)
          clear hl1 ls1
          refine lv_aload hx hb dX6_copy_38 (lv_at hl2 1 rfl) ?_
          refine va_get (D := D) (ci := 2) (v := .int (bi 3)) (C := RX2) (T := TX2) (N := 3) hx hb hw iX2 hown hK hP2 6 rfl rfl 1 (by decide) (hw _ kw_2_16) (fun _ h9 => h9) rfl dX6_copy_40 ?_
          refine lv_if_eq (tgt := 54) hx hb dX6_copy_43 (by decide) (fun c_43 => ?_) (fun c_43 => ?_)
          · replace hP2 : va_P D vwCl ([sO cy hh a kk dd b w ee qq ik, ia cy (hh 1) 7 C] ++ (shB cy qq bi si f)) H2 := hP2
            replace hD2 : va_D (va_A _ sz) ([sO cy hh a kk dd b w ee qq ik, ia cy (hh 1) 7 C] ++ (shB cy qq bi si f)) := hD2
            refine lv_aload_n hx hb dX6_copy_54 rfl (lv_at hl2 2 rfl) ?_
            refine lv_iconst (v := 5) hx hb dX6_copy_55 (by decide) ?_
            refine cV_i (wc := [sO cy hh a kk dd b w ee qq ik, ia cy (hh 1) 7 C]) (wr := shB cy qq bi si f) (rest := []) hx hb hml hown hw hG hK hP2 hD2 hS2 hA hl2 kc_X6_find kw_2_59 [.int 5] (c_X6_find l D cy G H2.size hh a kk dd b w ee qq ik C 5 (by first | omega | assumption)) [0, 1] [2, 3, 4, 5, 6, 7, 8, 9, 10] rfl rfl rfl rfl rfl 0 rfl rfl rfl rfl rfl (Nat.le_of_ble_eq_true rfl) ⟨Nat.le_of_ble_eq_true rfl, Nat.le_of_ble_eq_true rfl⟩ dX6_copy_56 ⟨Nat.le_of_ble_eq_true rfl, Nat.le_of_ble_eq_true rfl⟩ (fun r_56 u9 H3 locs3 hu9 hP3 hD3 hS3 => ?_)
            clear hP2 hD2 hS2 locs2 H2
            have hr_56 := hu9
            replace hP3 : va_P D vwCl (shB cy qq bi si f ++ ([sO cy hh a kk dd b w ee qq ik, ia cy (hh 1) 7 (upd C 5 (C 5 + 1))])) H3 := hP3
            replace hD3 : va_D (va_A _ sz) (shB cy qq bi si f ++ ([sO cy hh a kk dd b w ee qq ik, ia cy (hh 1) 7 (upd C 5 (C 5 + 1))])) := hD3
            replace hP3 := hP3.sub (ws' := [sO cy hh a kk dd b w ee qq ik, ia cy (hh 1) 7 (upd C 5 (C 5 + 1))] ++ (shB cy qq bi si f)) [9, 10, 0, 1, 2, 3, 4, 5, 6, 7, 8] rfl
            replace hD3 := hD3.sub (ws' := [sO cy hh a kk dd b w ee qq ik, ia cy (hh 1) 7 (upd C 5 (C 5 + 1))] ++ (shB cy qq bi si f)) [9, 10, 0, 1, 2, 3, 4, 5, 6, 7, 8] (by decide) rfl
            subst hr_56
            have hcd : cCopy bi si 3 x2 1 x4 x5 = 5 := by unfold cCopy; clear hx hb hml hown hr hlocks hw hsz hA hG hK hP3 hD3 hS3 hl2; grind
            have hq9 : ([sO cy hh a kk dd b w ee qq ik, ia cy (hh 1) 7 (upd C 5 (C 5 + 1))] ++ (shB cy qq bi si f)) = ([sO cy hh a kk dd b w ee qq ik, ia cy (hh 1) 7 (fnd C (cCopy bi si 3 x2 1 x4 x5))] ++ (shB cy qq bi si f)) := congrArg (fun z9 => [sO cy hh a kk dd b w ee qq ik, ia cy (hh 1) 7 z9] ++ (shB cy qq bi si f)) (show (upd C 5 (C 5 + 1)) = (fnd C (cCopy bi si 3 x2 1 x4 x5)) from fnd_f hcd (by decide))
            replace hP3 := (congrArg (fun z9 => va_P D vwCl z9 _) hq9).mp hP3
            replace hD3 := (congrArg (fun z9 => va_D _ z9) hq9).mp hD3
            clear hq9
            have hq9 : ([sO cy hh a kk dd b w ee qq ik, ia cy (hh 1) 7 (fnd C (cCopy bi si 3 x2 1 x4 x5))] ++ (shB cy qq bi si f)) = ([sO cy hh a kk dd b w ee qq ik, ia cy (hh 1) 7 (fnd C (cCopy bi si 3 x2 1 x4 x5))] ++ (shB cy qq bi si (if cCopy bi si 3 x2 1 x4 x5 = 7 then va_up f (bstN 1) (va_cpy (f (bstN 3)) (f (bstN 1)) (bstN x2) (bstN x4) (bstN x5)) else f))) := congrArg (fun z9 => [sO cy hh a kk dd b w ee qq ik, ia cy (hh 1) 7 (fnd C (cCopy bi si 3 x2 1 x4 x5))] ++ (shB cy qq bi si z9)) (show f = (if cCopy bi si 3 x2 1 x4 x5 = 7 then va_up f (bstN 1) (va_cpy (f (bstN 3)) (f (bstN 1)) (bstN x2) (bstN x4) (bstN x5)) else f) from (if_neg (fun z9 => absurd (hcd.symm.trans z9) (by decide))).symm)
            replace hP3 := (congrArg (fun z9 => va_P D vwCl z9 _) hq9).mp hP3
            replace hD3 := (congrArg (fun z9 => va_D _ z9) hq9).mp hD3
            clear hq9
            refine re_i () hx hb hr hlocks hP3 hD3 hS3 dX6_copy_59 ?_
            exact (ans_f hcd (by decide) rfl)
          · refine lv_aload hx hb dX6_copy_46 (lv_at hl2 0 rfl) ?_
            refine va_get (D := D) (ci := 2) (v := .int (bi 1)) (C := RX2) (T := TX2) (N := 3) hx hb hw iX2 hown hK hP2 4 rfl rfl 1 (by decide) (hw _ kw_2_16) (fun _ h9 => h9) rfl dX6_copy_48 ?_
            refine lv_if_ne (tgt := 60) hx hb dX6_copy_51 (by decide) (fun c_51 => ?_) (fun c_51 => ?_)
            · refine lv_aload hx hb dX6_copy_60 (lv_at hl2 1 rfl) ?_
              refine va_get (D := D) (ci := 2) (v := .int (bi 3)) (C := RX2) (T := TX2) (N := 3) hx hb hw iX2 hown hK hP2 6 rfl rfl 1 (by decide) (hw _ kw_2_16) (fun _ h9 => h9) rfl dX6_copy_62 ?_
              refine lv_aload hx hb dX6_copy_65 (lv_at hl2 0 rfl) ?_
              refine va_get (D := D) (ci := 2) (v := .int (bi 1)) (C := RX2) (T := TX2) (N := 3) hx hb hw iX2 hown hK hP2 4 rfl rfl 1 (by decide) (hw _ kw_2_16) (fun _ h9 => h9) rfl dX6_copy_67 ?_
              refine lv_icmp_eq (tgt := 79) hx hb dX6_copy_70 (by decide) (fun c_70 => ?_) (fun c_70 => ?_)
              · refine lv_aload hx hb dX6_copy_79 (lv_at hl2 1 rfl) ?_
                refine lv_iload_n hx hb dX6_copy_81 rfl (lv_at hl2 4 rfl) ?_
                refine lv_iload hx hb dX6_copy_82 (lv_at hl2 7 rfl) ?_
                refine rV_i (wc := [hO cy (qq 4) (qq 8) (bi 3) (si 3), la cy (qq 8) 40 (f 3)]) (rest := []) hx hb hml hown hw hG hK hP2 hS2 hA hl2 kc_X2_hasRow kw_4_12 [.int x2, .int x5] (c_X2_hasRow l D cy G H2.size (qq 4) (qq 8) (bi 3) (si 3) (f 3) x2 x5) [6, 10] rfl 0 rfl rfl rfl rfl rfl (Nat.le_of_ble_eq_true rfl) ⟨Nat.le_of_ble_eq_true rfl, Nat.le_of_ble_eq_true rfl⟩ dX6_copy_84 ⟨Nat.le_of_ble_eq_true rfl, Nat.le_of_ble_eq_true rfl⟩ (fun r_84 H3 locs3 hr_84 hP3 hS3 => ?_)
                have hD3 := hD2
                clear hP2 hD2 hS2 locs2 H2
                subst hr_84
                refine lb_eq (tgt := 102) hx hb dX6_copy_87 (by decide) (fun c_87 => ?_) (fun c_87 => ?_)
                · replace hP3 : va_P D vwCl ([sO cy hh a kk dd b w ee qq ik, ia cy (hh 1) 7 C] ++ (shB cy qq bi si f)) H3 := hP3
                  replace hD3 : va_D (va_A _ sz) ([sO cy hh a kk dd b w ee qq ik, ia cy (hh 1) 7 C] ++ (shB cy qq bi si f)) := hD3
                  refine lv_aload_n hx hb dX6_copy_102 rfl (lv_at hl2 2 rfl) ?_
                  refine lv_iconst (v := 0) hx hb dX6_copy_103 (by decide) ?_
                  refine cV_i (wc := [sO cy hh a kk dd b w ee qq ik, ia cy (hh 1) 7 C]) (wr := shB cy qq bi si f) (rest := []) hx hb hml hown hw hG hK hP3 hD3 hS3 hA hl2 kc_X6_find kw_2_59 [.int 0] (c_X6_find l D cy G H3.size hh a kk dd b w ee qq ik C 0 (by first | omega | assumption)) [0, 1] [2, 3, 4, 5, 6, 7, 8, 9, 10] rfl rfl rfl rfl rfl 0 rfl rfl rfl rfl rfl (Nat.le_of_ble_eq_true rfl) ⟨Nat.le_of_ble_eq_true rfl, Nat.le_of_ble_eq_true rfl⟩ dX6_copy_104 ⟨Nat.le_of_ble_eq_true rfl, Nat.le_of_ble_eq_true rfl⟩ (fun r_104 u9 H4 locs4 hu9 hP4 hD4 hS4 => ?_)
                  clear hP3 hD3 hS3 locs3 H3
                  have hr_104 := hu9
                  replace hP4 : va_P D vwCl (shB cy qq bi si f ++ ([sO cy hh a kk dd b w ee qq ik, ia cy (hh 1) 7 (upd C 0 (C 0 + 1))])) H4 := hP4
                  replace hD4 : va_D (va_A _ sz) (shB cy qq bi si f ++ ([sO cy hh a kk dd b w ee qq ik, ia cy (hh 1) 7 (upd C 0 (C 0 + 1))])) := hD4
                  replace hP4 := hP4.sub (ws' := [sO cy hh a kk dd b w ee qq ik, ia cy (hh 1) 7 (upd C 0 (C 0 + 1))] ++ (shB cy qq bi si f)) [9, 10, 0, 1, 2, 3, 4, 5, 6, 7, 8] rfl
                  replace hD4 := hD4.sub (ws' := [sO cy hh a kk dd b w ee qq ik, ia cy (hh 1) 7 (upd C 0 (C 0 + 1))] ++ (shB cy qq bi si f)) [9, 10, 0, 1, 2, 3, 4, 5, 6, 7, 8] (by decide) rfl
                  subst hr_104
                  have hcd : cCopy bi si 3 x2 1 x4 x5 = 0 := by unfold cCopy; clear hx hb hml hown hr hlocks hw hsz hA hG hK hP4 hD4 hS4 hl2; grind
                  have hq9 : ([sO cy hh a kk dd b w ee qq ik, ia cy (hh 1) 7 (upd C 0 (C 0 + 1))] ++ (shB cy qq bi si f)) = ([sO cy hh a kk dd b w ee qq ik, ia cy (hh 1) 7 (fnd C (cCopy bi si 3 x2 1 x4 x5))] ++ (shB cy qq bi si f)) := congrArg (fun z9 => [sO cy hh a kk dd b w ee qq ik, ia cy (hh 1) 7 z9] ++ (shB cy qq bi si f)) (show (upd C 0 (C 0 + 1)) = (fnd C (cCopy bi si 3 x2 1 x4 x5)) from fnd_f hcd (by decide))
                  replace hP4 := (congrArg (fun z9 => va_P D vwCl z9 _) hq9).mp hP4
                  replace hD4 := (congrArg (fun z9 => va_D _ z9) hq9).mp hD4
                  clear hq9
                  have hq9 : ([sO cy hh a kk dd b w ee qq ik, ia cy (hh 1) 7 (fnd C (cCopy bi si 3 x2 1 x4 x5))] ++ (shB cy qq bi si f)) = ([sO cy hh a kk dd b w ee qq ik, ia cy (hh 1) 7 (fnd C (cCopy bi si 3 x2 1 x4 x5))] ++ (shB cy qq bi si (if cCopy bi si 3 x2 1 x4 x5 = 7 then va_up f (bstN 1) (va_cpy (f (bstN 3)) (f (bstN 1)) (bstN x2) (bstN x4) (bstN x5)) else f))) := congrArg (fun z9 => [sO cy hh a kk dd b w ee qq ik, ia cy (hh 1) 7 (fnd C (cCopy bi si 3 x2 1 x4 x5))] ++ (shB cy qq bi si z9)) (show f = (if cCopy bi si 3 x2 1 x4 x5 = 7 then va_up f (bstN 1) (va_cpy (f (bstN 3)) (f (bstN 1)) (bstN x2) (bstN x4) (bstN x5)) else f) from (if_neg (fun z9 => absurd (hcd.symm.trans z9) (by decide))).symm)
                  replace hP4 := (congrArg (fun z9 => va_P D vwCl z9 _) hq9).mp hP4
                  replace hD4 := (congrArg (fun z9 => va_D _ z9) hq9).mp hD4
                  clear hq9
                  refine re_i () hx hb hr hlocks hP4 hD4 hS4 dX6_copy_107 ?_
                  exact (ans_f hcd (by decide) rfl)
                · refine lv_aload hx hb dX6_copy_90 (lv_at hl2 0 rfl) ?_
                  refine lv_iload hx hb dX6_copy_92 (lv_at hl2 6 rfl) ?_
                  refine lv_iload hx hb dX6_copy_94 (lv_at hl2 7 rfl) ?_
                  refine rV_i (wc := [hO cy (qq 2) (qq 6) (bi 1) (si 1), la cy (qq 6) 40 (f 1)]) (rest := []) hx hb hml hown hw hG hK hP3 hS3 hA hl2 kc_X2_hasRow kw_4_12 [.int x4, .int x5] (c_X2_hasRow l D cy G H3.size (qq 2) (qq 6) (bi 1) (si 1) (f 1) x4 x5) [4, 8] rfl 0 rfl rfl rfl rfl rfl (Nat.le_of_ble_eq_true rfl) ⟨Nat.le_of_ble_eq_true rfl, Nat.le_of_ble_eq_true rfl⟩ dX6_copy_96 ⟨Nat.le_of_ble_eq_true rfl, Nat.le_of_ble_eq_true rfl⟩ (fun r_96 H4 locs4 hr_96 hP4 hS4 => ?_)
                  have hD4 := hD3
                  clear hP3 hD3 hS3 locs3 H3
                  subst hr_96
                  refine lb_ne (tgt := 108) hx hb dX6_copy_99 (by decide) (fun c_99 => ?_) (fun c_99 => ?_)
                  · have h8 := c_87
                    rw [(hso 3 (by decide)).1] at h8
                    have h9 := c_99
                    rw [(hso 1 (by decide)).1] at h9
                    obtain ⟨a1, n1, hab, rfl, rfl⟩ := row_at (by omega) h8
                    obtain ⟨a2, n2, hab2, rfl, e4⟩ := row_at (by omega) h9
                    obtain rfl : n1 = n2 := (nI_eq (by omega) (by omega)).mp e4
                    have hba1 : bstN (nI a1) = a1 := bst_n (by omega)
                    have hba2 : bstN (nI a2) = a2 := bst_n (by omega)
                    have hbn : bstN (nI n1) = n1 := bst_n (by omega)
                    refine lv_aload hx hb dX6_copy_108 (lv_at hl2 1 rfl) ?_
                    refine va_get (D := D) (ci := 2) (v := .ref (qq 8)) (C := RX2) (T := TX2) (N := 3) hx hb hw iX2 hown hK hP4 6 rfl rfl 0 (by decide) (hw _ kw_2_14) (fun _ h9 => h9) rfl dX6_copy_110 ?_
                    refine lv_iload_n hx hb dX6_copy_113 rfl (lv_at hl2 4 rfl) ?_
                    refine lv_aload hx hb dX6_copy_114 (lv_at hl2 0 rfl) ?_
                    refine va_get (D := D) (ci := 2) (v := .ref (qq 6)) (C := RX2) (T := TX2) (N := 3) hx hb hw iX2 hown hK hP4 4 rfl rfl 0 (by decide) (hw _ kw_2_14) (fun _ h9 => h9) rfl dX6_copy_116 ?_
                    refine lv_iload hx hb dX6_copy_119 (lv_at hl2 6 rfl) ?_
                    refine lv_iload hx hb dX6_copy_121 (lv_at hl2 7 rfl) ?_
                    refine acpL (f := f 3) (g := f 1) (ws' := [sO cy hh a kk dd b w ee qq ik, ia cy (hh 1) 7 C, qsB cy qq, hO cy (qq 1) (qq 5) (bi 0) (si 0), hO cy (qq 2) (qq 6) (bi 1) (si 1), hO cy (qq 3) (qq 7) (bi 2) (si 2), hO cy (qq 4) (qq 8) (bi 3) (si 3), la cy (qq 5) 40 (f 0), la cy (qq 6) 40 (va_cpy (f 3) (f 1) a1 a2 n1), la cy (qq 7) 40 (f 2), la cy (qq 8) 40 (f 3)]) hx hb hml hl2 hw hown kw_4_16 kw_2_162 kw_2_161 kw_1_9 hK hP4 hD4 hS4 10 8 1 rfl rfl rfl a1 a2 n1 rfl rfl rfl (by omega) (by omega) (by omega) (by first | decide | omega) (by first | decide | omega) rfl (Nat.le_of_ble_eq_true rfl) (Nat.le_of_ble_eq_true rfl) dX6_copy_123 (fun H5 locs5 hP5 hD5 hS5 => ?_)
                    clear hP4 hD4 hS4 locs4 H4
                    replace hP5 : va_P D vwCl ([sO cy hh a kk dd b w ee qq ik, ia cy (hh 1) 7 C] ++ (shB cy qq bi si (va_up f 1 (va_cpy (f 3) (f 1) a1 a2 n1)))) H5 := hP5
                    replace hD5 : va_D (va_A _ sz) ([sO cy hh a kk dd b w ee qq ik, ia cy (hh 1) 7 C] ++ (shB cy qq bi si (va_up f 1 (va_cpy (f 3) (f 1) a1 a2 n1)))) := hD5
                    refine lv_iload hx hb dX6_copy_126 (lv_at hl2 7 rfl) ?_
                    have hcd : cCopy bi si 3 (nI a1) 1 (nI a2) (nI n1) = 7 := by unfold cCopy; clear hx hb hml hown hr hlocks hw hsz hA hG hK hP5 hD5 hS5 hl2; grind
                    have hq9 : ([sO cy hh a kk dd b w ee qq ik, ia cy (hh 1) 7 C] ++ (shB cy qq bi si (va_up f 1 (va_cpy (f 3) (f 1) a1 a2 n1)))) = ([sO cy hh a kk dd b w ee qq ik, ia cy (hh 1) 7 (fnd C (cCopy bi si 3 (nI a1) 1 (nI a2) (nI n1)))] ++ (shB cy qq bi si (va_up f 1 (va_cpy (f 3) (f 1) a1 a2 n1)))) := congrArg (fun z9 => [sO cy hh a kk dd b w ee qq ik, ia cy (hh 1) 7 z9] ++ (shB cy qq bi si (va_up f 1 (va_cpy (f 3) (f 1) a1 a2 n1)))) (show C = (fnd C (cCopy bi si 3 (nI a1) 1 (nI a2) (nI n1))) from fnd_o hcd)
                    replace hP5 := (congrArg (fun z9 => va_P D vwCl z9 _) hq9).mp hP5
                    replace hD5 := (congrArg (fun z9 => va_D _ z9) hq9).mp hD5
                    clear hq9
                    have hq9 : ([sO cy hh a kk dd b w ee qq ik, ia cy (hh 1) 7 (fnd C (cCopy bi si 3 (nI a1) 1 (nI a2) (nI n1)))] ++ (shB cy qq bi si (va_up f 1 (va_cpy (f 3) (f 1) a1 a2 n1)))) = ([sO cy hh a kk dd b w ee qq ik, ia cy (hh 1) 7 (fnd C (cCopy bi si 3 (nI a1) 1 (nI a2) (nI n1)))] ++ (shB cy qq bi si (if cCopy bi si 3 (nI a1) 1 (nI a2) (nI n1) = 7 then va_up f (bstN 1) (va_cpy (f (bstN 3)) (f (bstN 1)) (bstN (nI a1)) (bstN (nI a2)) (bstN (nI n1))) else f))) := congrArg (fun z9 => [sO cy hh a kk dd b w ee qq ik, ia cy (hh 1) 7 (fnd C (cCopy bi si 3 (nI a1) 1 (nI a2) (nI n1)))] ++ (shB cy qq bi si z9)) (show (va_up f 1 (va_cpy (f 3) (f 1) a1 a2 n1)) = (if cCopy bi si 3 (nI a1) 1 (nI a2) (nI n1) = 7 then va_up f (bstN 1) (va_cpy (f (bstN 3)) (f (bstN 1)) (bstN (nI a1)) (bstN (nI a2)) (bstN (nI n1))) else f) from by rw [if_pos hcd]; simp only [hba1, hba2, hbn, hb0, hb1, hb2, hb3])
                    replace hP5 := (congrArg (fun z9 => va_P D vwCl z9 _) hq9).mp hP5
                    replace hD5 := (congrArg (fun z9 => va_D _ z9) hq9).mp hD5
                    clear hq9
                    refine re_i () hx hb hr hlocks hP5 hD5 hS5 dX6_copy_128 ?_
                    exact (ans_o hcd (rfl))
                  · replace hP4 : va_P D vwCl ([sO cy hh a kk dd b w ee qq ik, ia cy (hh 1) 7 C] ++ (shB cy qq bi si f)) H4 := hP4
                    replace hD4 : va_D (va_A _ sz) ([sO cy hh a kk dd b w ee qq ik, ia cy (hh 1) 7 C] ++ (shB cy qq bi si f)) := hD4
                    refine lv_aload_n hx hb dX6_copy_102 rfl (lv_at hl2 2 rfl) ?_
                    refine lv_iconst (v := 0) hx hb dX6_copy_103 (by decide) ?_
                    refine cV_i (wc := [sO cy hh a kk dd b w ee qq ik, ia cy (hh 1) 7 C]) (wr := shB cy qq bi si f) (rest := []) hx hb hml hown hw hG hK hP4 hD4 hS4 hA hl2 kc_X6_find kw_2_59 [.int 0] (c_X6_find l D cy G H4.size hh a kk dd b w ee qq ik C 0 (by first | omega | assumption)) [0, 1] [2, 3, 4, 5, 6, 7, 8, 9, 10] rfl rfl rfl rfl rfl 0 rfl rfl rfl rfl rfl (Nat.le_of_ble_eq_true rfl) ⟨Nat.le_of_ble_eq_true rfl, Nat.le_of_ble_eq_true rfl⟩ dX6_copy_104 ⟨Nat.le_of_ble_eq_true rfl, Nat.le_of_ble_eq_true rfl⟩ (fun r_104 u9 H5 locs5 hu9 hP5 hD5 hS5 => ?_)
                    clear hP4 hD4 hS4 locs4 H4
                    have hr_104 := hu9
                    replace hP5 : va_P D vwCl (shB cy qq bi si f ++ ([sO cy hh a kk dd b w ee qq ik, ia cy (hh 1) 7 (upd C 0 (C 0 + 1))])) H5 := hP5
                    replace hD5 : va_D (va_A _ sz) (shB cy qq bi si f ++ ([sO cy hh a kk dd b w ee qq ik, ia cy (hh 1) 7 (upd C 0 (C 0 + 1))])) := hD5
                    replace hP5 := hP5.sub (ws' := [sO cy hh a kk dd b w ee qq ik, ia cy (hh 1) 7 (upd C 0 (C 0 + 1))] ++ (shB cy qq bi si f)) [9, 10, 0, 1, 2, 3, 4, 5, 6, 7, 8] rfl
                    replace hD5 := hD5.sub (ws' := [sO cy hh a kk dd b w ee qq ik, ia cy (hh 1) 7 (upd C 0 (C 0 + 1))] ++ (shB cy qq bi si f)) [9, 10, 0, 1, 2, 3, 4, 5, 6, 7, 8] (by decide) rfl
                    subst hr_104
                    have hcd : cCopy bi si 3 x2 1 x4 x5 = 0 := by unfold cCopy; clear hx hb hml hown hr hlocks hw hsz hA hG hK hP5 hD5 hS5 hl2; grind
                    have hq9 : ([sO cy hh a kk dd b w ee qq ik, ia cy (hh 1) 7 (upd C 0 (C 0 + 1))] ++ (shB cy qq bi si f)) = ([sO cy hh a kk dd b w ee qq ik, ia cy (hh 1) 7 (fnd C (cCopy bi si 3 x2 1 x4 x5))] ++ (shB cy qq bi si f)) := congrArg (fun z9 => [sO cy hh a kk dd b w ee qq ik, ia cy (hh 1) 7 z9] ++ (shB cy qq bi si f)) (show (upd C 0 (C 0 + 1)) = (fnd C (cCopy bi si 3 x2 1 x4 x5)) from fnd_f hcd (by decide))
                    replace hP5 := (congrArg (fun z9 => va_P D vwCl z9 _) hq9).mp hP5
                    replace hD5 := (congrArg (fun z9 => va_D _ z9) hq9).mp hD5
                    clear hq9
                    have hq9 : ([sO cy hh a kk dd b w ee qq ik, ia cy (hh 1) 7 (fnd C (cCopy bi si 3 x2 1 x4 x5))] ++ (shB cy qq bi si f)) = ([sO cy hh a kk dd b w ee qq ik, ia cy (hh 1) 7 (fnd C (cCopy bi si 3 x2 1 x4 x5))] ++ (shB cy qq bi si (if cCopy bi si 3 x2 1 x4 x5 = 7 then va_up f (bstN 1) (va_cpy (f (bstN 3)) (f (bstN 1)) (bstN x2) (bstN x4) (bstN x5)) else f))) := congrArg (fun z9 => [sO cy hh a kk dd b w ee qq ik, ia cy (hh 1) 7 (fnd C (cCopy bi si 3 x2 1 x4 x5))] ++ (shB cy qq bi si z9)) (show f = (if cCopy bi si 3 x2 1 x4 x5 = 7 then va_up f (bstN 1) (va_cpy (f (bstN 3)) (f (bstN 1)) (bstN x2) (bstN x4) (bstN x5)) else f) from (if_neg (fun z9 => absurd (hcd.symm.trans z9) (by decide))).symm)
                    replace hP5 := (congrArg (fun z9 => va_P D vwCl z9 _) hq9).mp hP5
                    replace hD5 := (congrArg (fun z9 => va_D _ z9) hq9).mp hD5
                    clear hq9
                    refine re_i () hx hb hr hlocks hP5 hD5 hS5 dX6_copy_107 ?_
                    exact (ans_f hcd (by decide) rfl)
              · replace hP2 : va_P D vwCl ([sO cy hh a kk dd b w ee qq ik, ia cy (hh 1) 7 C] ++ (shB cy qq bi si f)) H2 := hP2
                replace hD2 : va_D (va_A _ sz) ([sO cy hh a kk dd b w ee qq ik, ia cy (hh 1) 7 C] ++ (shB cy qq bi si f)) := hD2
                refine lv_aload_n hx hb dX6_copy_73 rfl (lv_at hl2 2 rfl) ?_
                refine lv_iconst (v := 2) hx hb dX6_copy_74 (by decide) ?_
                refine cV_i (wc := [sO cy hh a kk dd b w ee qq ik, ia cy (hh 1) 7 C]) (wr := shB cy qq bi si f) (rest := []) hx hb hml hown hw hG hK hP2 hD2 hS2 hA hl2 kc_X6_find kw_2_59 [.int 2] (c_X6_find l D cy G H2.size hh a kk dd b w ee qq ik C 2 (by first | omega | assumption)) [0, 1] [2, 3, 4, 5, 6, 7, 8, 9, 10] rfl rfl rfl rfl rfl 0 rfl rfl rfl rfl rfl (Nat.le_of_ble_eq_true rfl) ⟨Nat.le_of_ble_eq_true rfl, Nat.le_of_ble_eq_true rfl⟩ dX6_copy_75 ⟨Nat.le_of_ble_eq_true rfl, Nat.le_of_ble_eq_true rfl⟩ (fun r_75 u9 H3 locs3 hu9 hP3 hD3 hS3 => ?_)
                clear hP2 hD2 hS2 locs2 H2
                have hr_75 := hu9
                replace hP3 : va_P D vwCl (shB cy qq bi si f ++ ([sO cy hh a kk dd b w ee qq ik, ia cy (hh 1) 7 (upd C 2 (C 2 + 1))])) H3 := hP3
                replace hD3 : va_D (va_A _ sz) (shB cy qq bi si f ++ ([sO cy hh a kk dd b w ee qq ik, ia cy (hh 1) 7 (upd C 2 (C 2 + 1))])) := hD3
                replace hP3 := hP3.sub (ws' := [sO cy hh a kk dd b w ee qq ik, ia cy (hh 1) 7 (upd C 2 (C 2 + 1))] ++ (shB cy qq bi si f)) [9, 10, 0, 1, 2, 3, 4, 5, 6, 7, 8] rfl
                replace hD3 := hD3.sub (ws' := [sO cy hh a kk dd b w ee qq ik, ia cy (hh 1) 7 (upd C 2 (C 2 + 1))] ++ (shB cy qq bi si f)) [9, 10, 0, 1, 2, 3, 4, 5, 6, 7, 8] (by decide) rfl
                subst hr_75
                have hcd : cCopy bi si 3 x2 1 x4 x5 = 2 := by unfold cCopy; clear hx hb hml hown hr hlocks hw hsz hA hG hK hP3 hD3 hS3 hl2; grind
                have hq9 : ([sO cy hh a kk dd b w ee qq ik, ia cy (hh 1) 7 (upd C 2 (C 2 + 1))] ++ (shB cy qq bi si f)) = ([sO cy hh a kk dd b w ee qq ik, ia cy (hh 1) 7 (fnd C (cCopy bi si 3 x2 1 x4 x5))] ++ (shB cy qq bi si f)) := congrArg (fun z9 => [sO cy hh a kk dd b w ee qq ik, ia cy (hh 1) 7 z9] ++ (shB cy qq bi si f)) (show (upd C 2 (C 2 + 1)) = (fnd C (cCopy bi si 3 x2 1 x4 x5)) from fnd_f hcd (by decide))
                replace hP3 := (congrArg (fun z9 => va_P D vwCl z9 _) hq9).mp hP3
                replace hD3 := (congrArg (fun z9 => va_D _ z9) hq9).mp hD3
                clear hq9
                have hq9 : ([sO cy hh a kk dd b w ee qq ik, ia cy (hh 1) 7 (fnd C (cCopy bi si 3 x2 1 x4 x5))] ++ (shB cy qq bi si f)) = ([sO cy hh a kk dd b w ee qq ik, ia cy (hh 1) 7 (fnd C (cCopy bi si 3 x2 1 x4 x5))] ++ (shB cy qq bi si (if cCopy bi si 3 x2 1 x4 x5 = 7 then va_up f (bstN 1) (va_cpy (f (bstN 3)) (f (bstN 1)) (bstN x2) (bstN x4) (bstN x5)) else f))) := congrArg (fun z9 => [sO cy hh a kk dd b w ee qq ik, ia cy (hh 1) 7 (fnd C (cCopy bi si 3 x2 1 x4 x5))] ++ (shB cy qq bi si z9)) (show f = (if cCopy bi si 3 x2 1 x4 x5 = 7 then va_up f (bstN 1) (va_cpy (f (bstN 3)) (f (bstN 1)) (bstN x2) (bstN x4) (bstN x5)) else f) from (if_neg (fun z9 => absurd (hcd.symm.trans z9) (by decide))).symm)
                replace hP3 := (congrArg (fun z9 => va_P D vwCl z9 _) hq9).mp hP3
                replace hD3 := (congrArg (fun z9 => va_D _ z9) hq9).mp hD3
                clear hq9
                refine re_i () hx hb hr hlocks hP3 hD3 hS3 dX6_copy_78 ?_
                exact (ans_f hcd (by decide) rfl)
            · replace hP2 : va_P D vwCl ([sO cy hh a kk dd b w ee qq ik, ia cy (hh 1) 7 C] ++ (shB cy qq bi si f)) H2 := hP2
              replace hD2 : va_D (va_A _ sz) ([sO cy hh a kk dd b w ee qq ik, ia cy (hh 1) 7 C] ++ (shB cy qq bi si f)) := hD2
              refine lv_aload_n hx hb dX6_copy_54 rfl (lv_at hl2 2 rfl) ?_
              refine lv_iconst (v := 5) hx hb dX6_copy_55 (by decide) ?_
              refine cV_i (wc := [sO cy hh a kk dd b w ee qq ik, ia cy (hh 1) 7 C]) (wr := shB cy qq bi si f) (rest := []) hx hb hml hown hw hG hK hP2 hD2 hS2 hA hl2 kc_X6_find kw_2_59 [.int 5] (c_X6_find l D cy G H2.size hh a kk dd b w ee qq ik C 5 (by first | omega | assumption)) [0, 1] [2, 3, 4, 5, 6, 7, 8, 9, 10] rfl rfl rfl rfl rfl 0 rfl rfl rfl rfl rfl (Nat.le_of_ble_eq_true rfl) ⟨Nat.le_of_ble_eq_true rfl, Nat.le_of_ble_eq_true rfl⟩ dX6_copy_56 ⟨Nat.le_of_ble_eq_true rfl, Nat.le_of_ble_eq_true rfl⟩ (fun r_56 u9 H3 locs3 hu9 hP3 hD3 hS3 => ?_)
              clear hP2 hD2 hS2 locs2 H2
              have hr_56 := hu9
              replace hP3 : va_P D vwCl (shB cy qq bi si f ++ ([sO cy hh a kk dd b w ee qq ik, ia cy (hh 1) 7 (upd C 5 (C 5 + 1))])) H3 := hP3
              replace hD3 : va_D (va_A _ sz) (shB cy qq bi si f ++ ([sO cy hh a kk dd b w ee qq ik, ia cy (hh 1) 7 (upd C 5 (C 5 + 1))])) := hD3
              replace hP3 := hP3.sub (ws' := [sO cy hh a kk dd b w ee qq ik, ia cy (hh 1) 7 (upd C 5 (C 5 + 1))] ++ (shB cy qq bi si f)) [9, 10, 0, 1, 2, 3, 4, 5, 6, 7, 8] rfl
              replace hD3 := hD3.sub (ws' := [sO cy hh a kk dd b w ee qq ik, ia cy (hh 1) 7 (upd C 5 (C 5 + 1))] ++ (shB cy qq bi si f)) [9, 10, 0, 1, 2, 3, 4, 5, 6, 7, 8] (by decide) rfl
              subst hr_56
              have hcd : cCopy bi si 3 x2 1 x4 x5 = 5 := by unfold cCopy; clear hx hb hml hown hr hlocks hw hsz hA hG hK hP3 hD3 hS3 hl2; grind
              have hq9 : ([sO cy hh a kk dd b w ee qq ik, ia cy (hh 1) 7 (upd C 5 (C 5 + 1))] ++ (shB cy qq bi si f)) = ([sO cy hh a kk dd b w ee qq ik, ia cy (hh 1) 7 (fnd C (cCopy bi si 3 x2 1 x4 x5))] ++ (shB cy qq bi si f)) := congrArg (fun z9 => [sO cy hh a kk dd b w ee qq ik, ia cy (hh 1) 7 z9] ++ (shB cy qq bi si f)) (show (upd C 5 (C 5 + 1)) = (fnd C (cCopy bi si 3 x2 1 x4 x5)) from fnd_f hcd (by decide))
              replace hP3 := (congrArg (fun z9 => va_P D vwCl z9 _) hq9).mp hP3
              replace hD3 := (congrArg (fun z9 => va_D _ z9) hq9).mp hD3
              clear hq9
              have hq9 : ([sO cy hh a kk dd b w ee qq ik, ia cy (hh 1) 7 (fnd C (cCopy bi si 3 x2 1 x4 x5))] ++ (shB cy qq bi si f)) = ([sO cy hh a kk dd b w ee qq ik, ia cy (hh 1) 7 (fnd C (cCopy bi si 3 x2 1 x4 x5))] ++ (shB cy qq bi si (if cCopy bi si 3 x2 1 x4 x5 = 7 then va_up f (bstN 1) (va_cpy (f (bstN 3)) (f (bstN 1)) (bstN x2) (bstN x4) (bstN x5)) else f))) := congrArg (fun z9 => [sO cy hh a kk dd b w ee qq ik, ia cy (hh 1) 7 (fnd C (cCopy bi si 3 x2 1 x4 x5))] ++ (shB cy qq bi si z9)) (show f = (if cCopy bi si 3 x2 1 x4 x5 = 7 then va_up f (bstN 1) (va_cpy (f (bstN 3)) (f (bstN 1)) (bstN x2) (bstN x4) (bstN x5)) else f) from (if_neg (fun z9 => absurd (hcd.symm.trans z9) (by decide))).symm)
              replace hP3 := (congrArg (fun z9 => va_P D vwCl z9 _) hq9).mp hP3
              replace hD3 := (congrArg (fun z9 => va_D _ z9) hq9).mp hD3
              clear hq9
              refine re_i () hx hb hr hlocks hP3 hD3 hS3 dX6_copy_59 ?_
              exact (ans_f hcd (by decide) rfl)
        · refine lv_iload_n hx hb dX6_copy_34 rfl (lv_at hl1 4 rfl) ?_
          refine ald_q hx hb hK hP2 2 3 rfl rfl rfl 2 rfl (by first | omega | assumption) (by decide) (rfl) dX6_copy_35 ?_
          refine lv_astore (lv' := [(7, .ref (qq 3)), (6, .ref (qq 4)), (0, .ref (hh 0)), (1, .int 3), (2, .int x2), (3, .int 2), (4, .int x4), (5, .int x5)]) hx hb dX6_copy_36 hl1 (by decide) rfl (fun ls2 hl2 => ?_)
          clear hl1 ls1
          refine lv_aload hx hb dX6_copy_38 (lv_at hl2 1 rfl) ?_
          refine va_get (D := D) (ci := 2) (v := .int (bi 3)) (C := RX2) (T := TX2) (N := 3) hx hb hw iX2 hown hK hP2 6 rfl rfl 1 (by decide) (hw _ kw_2_16) (fun _ h9 => h9) rfl dX6_copy_40 ?_
          refine lv_if_eq (tgt := 54) hx hb dX6_copy_43 (by decide) (fun c_43 => ?_) (fun c_43 => ?_)
          · replace hP2 : va_P D vwCl ([sO cy hh a kk dd b w ee qq ik, ia cy (hh 1) 7 C] ++ (shB cy qq bi si f)) H2 := hP2
            replace hD2 : va_D (va_A _ sz) ([sO cy hh a kk dd b w ee qq ik, ia cy (hh 1) 7 C] ++ (shB cy qq bi si f)) := hD2
            refine lv_aload_n hx hb dX6_copy_54 rfl (lv_at hl2 2 rfl) ?_
            refine lv_iconst (v := 5) hx hb dX6_copy_55 (by decide) ?_
            refine cV_i (wc := [sO cy hh a kk dd b w ee qq ik, ia cy (hh 1) 7 C]) (wr := shB cy qq bi si f) (rest := []) hx hb hml hown hw hG hK hP2 hD2 hS2 hA hl2 kc_X6_find kw_2_59 [.int 5] (c_X6_find l D cy G H2.size hh a kk dd b w ee qq ik C 5 (by first | omega | assumption)) [0, 1] [2, 3, 4, 5, 6, 7, 8, 9, 10] rfl rfl rfl rfl rfl 0 rfl rfl rfl rfl rfl (Nat.le_of_ble_eq_true rfl) ⟨Nat.le_of_ble_eq_true rfl, Nat.le_of_ble_eq_true rfl⟩ dX6_copy_56 ⟨Nat.le_of_ble_eq_true rfl, Nat.le_of_ble_eq_true rfl⟩ (fun r_56 u9 H3 locs3 hu9 hP3 hD3 hS3 => ?_)
            clear hP2 hD2 hS2 locs2 H2
            have hr_56 := hu9
            replace hP3 : va_P D vwCl (shB cy qq bi si f ++ ([sO cy hh a kk dd b w ee qq ik, ia cy (hh 1) 7 (upd C 5 (C 5 + 1))])) H3 := hP3
            replace hD3 : va_D (va_A _ sz) (shB cy qq bi si f ++ ([sO cy hh a kk dd b w ee qq ik, ia cy (hh 1) 7 (upd C 5 (C 5 + 1))])) := hD3
            replace hP3 := hP3.sub (ws' := [sO cy hh a kk dd b w ee qq ik, ia cy (hh 1) 7 (upd C 5 (C 5 + 1))] ++ (shB cy qq bi si f)) [9, 10, 0, 1, 2, 3, 4, 5, 6, 7, 8] rfl
            replace hD3 := hD3.sub (ws' := [sO cy hh a kk dd b w ee qq ik, ia cy (hh 1) 7 (upd C 5 (C 5 + 1))] ++ (shB cy qq bi si f)) [9, 10, 0, 1, 2, 3, 4, 5, 6, 7, 8] (by decide) rfl
            subst hr_56
            have hcd : cCopy bi si 3 x2 2 x4 x5 = 5 := by unfold cCopy; clear hx hb hml hown hr hlocks hw hsz hA hG hK hP3 hD3 hS3 hl2; grind
            have hq9 : ([sO cy hh a kk dd b w ee qq ik, ia cy (hh 1) 7 (upd C 5 (C 5 + 1))] ++ (shB cy qq bi si f)) = ([sO cy hh a kk dd b w ee qq ik, ia cy (hh 1) 7 (fnd C (cCopy bi si 3 x2 2 x4 x5))] ++ (shB cy qq bi si f)) := congrArg (fun z9 => [sO cy hh a kk dd b w ee qq ik, ia cy (hh 1) 7 z9] ++ (shB cy qq bi si f)) (show (upd C 5 (C 5 + 1)) = (fnd C (cCopy bi si 3 x2 2 x4 x5)) from fnd_f hcd (by decide))
            replace hP3 := (congrArg (fun z9 => va_P D vwCl z9 _) hq9).mp hP3
            replace hD3 := (congrArg (fun z9 => va_D _ z9) hq9).mp hD3
            clear hq9
            have hq9 : ([sO cy hh a kk dd b w ee qq ik, ia cy (hh 1) 7 (fnd C (cCopy bi si 3 x2 2 x4 x5))] ++ (shB cy qq bi si f)) = ([sO cy hh a kk dd b w ee qq ik, ia cy (hh 1) 7 (fnd C (cCopy bi si 3 x2 2 x4 x5))] ++ (shB cy qq bi si (if cCopy bi si 3 x2 2 x4 x5 = 7 then va_up f (bstN 2) (va_cpy (f (bstN 3)) (f (bstN 2)) (bstN x2) (bstN x4) (bstN x5)) else f))) := congrArg (fun z9 => [sO cy hh a kk dd b w ee qq ik, ia cy (hh 1) 7 (fnd C (cCopy bi si 3 x2 2 x4 x5))] ++ (shB cy qq bi si z9)) (show f = (if cCopy bi si 3 x2 2 x4 x5 = 7 then va_up f (bstN 2) (va_cpy (f (bstN 3)) (f (bstN 2)) (bstN x2) (bstN x4) (bstN x5)) else f) from (if_neg (fun z9 => absurd (hcd.symm.trans z9) (by decide))).symm)
            replace hP3 := (congrArg (fun z9 => va_P D vwCl z9 _) hq9).mp hP3
            replace hD3 := (congrArg (fun z9 => va_D _ z9) hq9).mp hD3
            clear hq9
            refine re_i () hx hb hr hlocks hP3 hD3 hS3 dX6_copy_59 ?_
            exact (ans_f hcd (by decide) rfl)
          · refine lv_aload hx hb dX6_copy_46 (lv_at hl2 0 rfl) ?_
            refine va_get (D := D) (ci := 2) (v := .int (bi 2)) (C := RX2) (T := TX2) (N := 3) hx hb hw iX2 hown hK hP2 5 rfl rfl 1 (by decide) (hw _ kw_2_16) (fun _ h9 => h9) rfl dX6_copy_48 ?_
            refine lv_if_ne (tgt := 60) hx hb dX6_copy_51 (by decide) (fun c_51 => ?_) (fun c_51 => ?_)
            · refine lv_aload hx hb dX6_copy_60 (lv_at hl2 1 rfl) ?_
              refine va_get (D := D) (ci := 2) (v := .int (bi 3)) (C := RX2) (T := TX2) (N := 3) hx hb hw iX2 hown hK hP2 6 rfl rfl 1 (by decide) (hw _ kw_2_16) (fun _ h9 => h9) rfl dX6_copy_62 ?_
              refine lv_aload hx hb dX6_copy_65 (lv_at hl2 0 rfl) ?_
              refine va_get (D := D) (ci := 2) (v := .int (bi 2)) (C := RX2) (T := TX2) (N := 3) hx hb hw iX2 hown hK hP2 5 rfl rfl 1 (by decide) (hw _ kw_2_16) (fun _ h9 => h9) rfl dX6_copy_67 ?_
              refine lv_icmp_eq (tgt := 79) hx hb dX6_copy_70 (by decide) (fun c_70 => ?_) (fun c_70 => ?_)
              · refine lv_aload hx hb dX6_copy_79 (lv_at hl2 1 rfl) ?_
                refine lv_iload_n hx hb dX6_copy_81 rfl (lv_at hl2 4 rfl) ?_
                refine lv_iload hx hb dX6_copy_82 (lv_at hl2 7 rfl) ?_
                refine rV_i (wc := [hO cy (qq 4) (qq 8) (bi 3) (si 3), la cy (qq 8) 40 (f 3)]) (rest := []) hx hb hml hown hw hG hK hP2 hS2 hA hl2 kc_X2_hasRow kw_4_12 [.int x2, .int x5] (c_X2_hasRow l D cy G H2.size (qq 4) (qq 8) (bi 3) (si 3) (f 3) x2 x5) [6, 10] rfl 0 rfl rfl rfl rfl rfl (Nat.le_of_ble_eq_true rfl) ⟨Nat.le_of_ble_eq_true rfl, Nat.le_of_ble_eq_true rfl⟩ dX6_copy_84 ⟨Nat.le_of_ble_eq_true rfl, Nat.le_of_ble_eq_true rfl⟩ (fun r_84 H3 locs3 hr_84 hP3 hS3 => ?_)
                have hD3 := hD2
                clear hP2 hD2 hS2 locs2 H2
                subst hr_84
                refine lb_eq (tgt := 102) hx hb dX6_copy_87 (by decide) (fun c_87 => ?_) (fun c_87 => ?_)
                · replace hP3 : va_P D vwCl ([sO cy hh a kk dd b w ee qq ik, ia cy (hh 1) 7 C] ++ (shB cy qq bi si f)) H3 := hP3
                  replace hD3 : va_D (va_A _ sz) ([sO cy hh a kk dd b w ee qq ik, ia cy (hh 1) 7 C] ++ (shB cy qq bi si f)) := hD3
                  refine lv_aload_n hx hb dX6_copy_102 rfl (lv_at hl2 2 rfl) ?_
                  refine lv_iconst (v := 0) hx hb dX6_copy_103 (by decide) ?_
                  refine cV_i (wc := [sO cy hh a kk dd b w ee qq ik, ia cy (hh 1) 7 C]) (wr := shB cy qq bi si f) (rest := []) hx hb hml hown hw hG hK hP3 hD3 hS3 hA hl2 kc_X6_find kw_2_59 [.int 0] (c_X6_find l D cy G H3.size hh a kk dd b w ee qq ik C 0 (by first | omega | assumption)) [0, 1] [2, 3, 4, 5, 6, 7, 8, 9, 10] rfl rfl rfl rfl rfl 0 rfl rfl rfl rfl rfl (Nat.le_of_ble_eq_true rfl) ⟨Nat.le_of_ble_eq_true rfl, Nat.le_of_ble_eq_true rfl⟩ dX6_copy_104 ⟨Nat.le_of_ble_eq_true rfl, Nat.le_of_ble_eq_true rfl⟩ (fun r_104 u9 H4 locs4 hu9 hP4 hD4 hS4 => ?_)
                  clear hP3 hD3 hS3 locs3 H3
                  have hr_104 := hu9
                  replace hP4 : va_P D vwCl (shB cy qq bi si f ++ ([sO cy hh a kk dd b w ee qq ik, ia cy (hh 1) 7 (upd C 0 (C 0 + 1))])) H4 := hP4
                  replace hD4 : va_D (va_A _ sz) (shB cy qq bi si f ++ ([sO cy hh a kk dd b w ee qq ik, ia cy (hh 1) 7 (upd C 0 (C 0 + 1))])) := hD4
                  replace hP4 := hP4.sub (ws' := [sO cy hh a kk dd b w ee qq ik, ia cy (hh 1) 7 (upd C 0 (C 0 + 1))] ++ (shB cy qq bi si f)) [9, 10, 0, 1, 2, 3, 4, 5, 6, 7, 8] rfl
                  replace hD4 := hD4.sub (ws' := [sO cy hh a kk dd b w ee qq ik, ia cy (hh 1) 7 (upd C 0 (C 0 + 1))] ++ (shB cy qq bi si f)) [9, 10, 0, 1, 2, 3, 4, 5, 6, 7, 8] (by decide) rfl
                  subst hr_104
                  have hcd : cCopy bi si 3 x2 2 x4 x5 = 0 := by unfold cCopy; clear hx hb hml hown hr hlocks hw hsz hA hG hK hP4 hD4 hS4 hl2; grind
                  have hq9 : ([sO cy hh a kk dd b w ee qq ik, ia cy (hh 1) 7 (upd C 0 (C 0 + 1))] ++ (shB cy qq bi si f)) = ([sO cy hh a kk dd b w ee qq ik, ia cy (hh 1) 7 (fnd C (cCopy bi si 3 x2 2 x4 x5))] ++ (shB cy qq bi si f)) := congrArg (fun z9 => [sO cy hh a kk dd b w ee qq ik, ia cy (hh 1) 7 z9] ++ (shB cy qq bi si f)) (show (upd C 0 (C 0 + 1)) = (fnd C (cCopy bi si 3 x2 2 x4 x5)) from fnd_f hcd (by decide))
                  replace hP4 := (congrArg (fun z9 => va_P D vwCl z9 _) hq9).mp hP4
                  replace hD4 := (congrArg (fun z9 => va_D _ z9) hq9).mp hD4
                  clear hq9
                  have hq9 : ([sO cy hh a kk dd b w ee qq ik, ia cy (hh 1) 7 (fnd C (cCopy bi si 3 x2 2 x4 x5))] ++ (shB cy qq bi si f)) = ([sO cy hh a kk dd b w ee qq ik, ia cy (hh 1) 7 (fnd C (cCopy bi si 3 x2 2 x4 x5))] ++ (shB cy qq bi si (if cCopy bi si 3 x2 2 x4 x5 = 7 then va_up f (bstN 2) (va_cpy (f (bstN 3)) (f (bstN 2)) (bstN x2) (bstN x4) (bstN x5)) else f))) := congrArg (fun z9 => [sO cy hh a kk dd b w ee qq ik, ia cy (hh 1) 7 (fnd C (cCopy bi si 3 x2 2 x4 x5))] ++ (shB cy qq bi si z9)) (show f = (if cCopy bi si 3 x2 2 x4 x5 = 7 then va_up f (bstN 2) (va_cpy (f (bstN 3)) (f (bstN 2)) (bstN x2) (bstN x4) (bstN x5)) else f) from (if_neg (fun z9 => absurd (hcd.symm.trans z9) (by decide))).symm)
                  replace hP4 := (congrArg (fun z9 => va_P D vwCl z9 _) hq9).mp hP4
                  replace hD4 := (congrArg (fun z9 => va_D _ z9) hq9).mp hD4
                  clear hq9
                  refine re_i () hx hb hr hlocks hP4 hD4 hS4 dX6_copy_107 ?_
                  exact (ans_f hcd (by decide) rfl)
                · refine lv_aload hx hb dX6_copy_90 (lv_at hl2 0 rfl) ?_
                  refine lv_iload hx hb dX6_copy_92 (lv_at hl2 6 rfl) ?_
                  refine lv_iload hx hb dX6_copy_94 (lv_at hl2 7 rfl) ?_
                  refine rV_i (wc := [hO cy (qq 3) (qq 7) (bi 2) (si 2), la cy (qq 7) 40 (f 2)]) (rest := []) hx hb hml hown hw hG hK hP3 hS3 hA hl2 kc_X2_hasRow kw_4_12 [.int x4, .int x5] (c_X2_hasRow l D cy G H3.size (qq 3) (qq 7) (bi 2) (si 2) (f 2) x4 x5) [5, 9] rfl 0 rfl rfl rfl rfl rfl (Nat.le_of_ble_eq_true rfl) ⟨Nat.le_of_ble_eq_true rfl, Nat.le_of_ble_eq_true rfl⟩ dX6_copy_96 ⟨Nat.le_of_ble_eq_true rfl, Nat.le_of_ble_eq_true rfl⟩ (fun r_96 H4 locs4 hr_96 hP4 hS4 => ?_)
                  have hD4 := hD3
                  clear hP3 hD3 hS3 locs3 H3
                  subst hr_96
                  refine lb_ne (tgt := 108) hx hb dX6_copy_99 (by decide) (fun c_99 => ?_) (fun c_99 => ?_)
                  · have h8 := c_87
                    rw [(hso 3 (by decide)).1] at h8
                    have h9 := c_99
                    rw [(hso 2 (by decide)).1] at h9
                    obtain ⟨a1, n1, hab, rfl, rfl⟩ := row_at (by omega) h8
                    obtain ⟨a2, n2, hab2, rfl, e4⟩ := row_at (by omega) h9
                    obtain rfl : n1 = n2 := (nI_eq (by omega) (by omega)).mp e4
                    have hba1 : bstN (nI a1) = a1 := bst_n (by omega)
                    have hba2 : bstN (nI a2) = a2 := bst_n (by omega)
                    have hbn : bstN (nI n1) = n1 := bst_n (by omega)
                    refine lv_aload hx hb dX6_copy_108 (lv_at hl2 1 rfl) ?_
                    refine va_get (D := D) (ci := 2) (v := .ref (qq 8)) (C := RX2) (T := TX2) (N := 3) hx hb hw iX2 hown hK hP4 6 rfl rfl 0 (by decide) (hw _ kw_2_14) (fun _ h9 => h9) rfl dX6_copy_110 ?_
                    refine lv_iload_n hx hb dX6_copy_113 rfl (lv_at hl2 4 rfl) ?_
                    refine lv_aload hx hb dX6_copy_114 (lv_at hl2 0 rfl) ?_
                    refine va_get (D := D) (ci := 2) (v := .ref (qq 7)) (C := RX2) (T := TX2) (N := 3) hx hb hw iX2 hown hK hP4 5 rfl rfl 0 (by decide) (hw _ kw_2_14) (fun _ h9 => h9) rfl dX6_copy_116 ?_
                    refine lv_iload hx hb dX6_copy_119 (lv_at hl2 6 rfl) ?_
                    refine lv_iload hx hb dX6_copy_121 (lv_at hl2 7 rfl) ?_
                    refine acpL (f := f 3) (g := f 2) (ws' := [sO cy hh a kk dd b w ee qq ik, ia cy (hh 1) 7 C, qsB cy qq, hO cy (qq 1) (qq 5) (bi 0) (si 0), hO cy (qq 2) (qq 6) (bi 1) (si 1), hO cy (qq 3) (qq 7) (bi 2) (si 2), hO cy (qq 4) (qq 8) (bi 3) (si 3), la cy (qq 5) 40 (f 0), la cy (qq 6) 40 (f 1), la cy (qq 7) 40 (va_cpy (f 3) (f 2) a1 a2 n1), la cy (qq 8) 40 (f 3)]) hx hb hml hl2 hw hown kw_4_16 kw_2_162 kw_2_161 kw_1_9 hK hP4 hD4 hS4 10 9 1 rfl rfl rfl a1 a2 n1 rfl rfl rfl (by omega) (by omega) (by omega) (by first | decide | omega) (by first | decide | omega) rfl (Nat.le_of_ble_eq_true rfl) (Nat.le_of_ble_eq_true rfl) dX6_copy_123 (fun H5 locs5 hP5 hD5 hS5 => ?_)
                    clear hP4 hD4 hS4 locs4 H4
                    replace hP5 : va_P D vwCl ([sO cy hh a kk dd b w ee qq ik, ia cy (hh 1) 7 C] ++ (shB cy qq bi si (va_up f 2 (va_cpy (f 3) (f 2) a1 a2 n1)))) H5 := hP5
                    replace hD5 : va_D (va_A _ sz) ([sO cy hh a kk dd b w ee qq ik, ia cy (hh 1) 7 C] ++ (shB cy qq bi si (va_up f 2 (va_cpy (f 3) (f 2) a1 a2 n1)))) := hD5
                    refine lv_iload hx hb dX6_copy_126 (lv_at hl2 7 rfl) ?_
                    have hcd : cCopy bi si 3 (nI a1) 2 (nI a2) (nI n1) = 7 := by unfold cCopy; clear hx hb hml hown hr hlocks hw hsz hA hG hK hP5 hD5 hS5 hl2; grind
                    have hq9 : ([sO cy hh a kk dd b w ee qq ik, ia cy (hh 1) 7 C] ++ (shB cy qq bi si (va_up f 2 (va_cpy (f 3) (f 2) a1 a2 n1)))) = ([sO cy hh a kk dd b w ee qq ik, ia cy (hh 1) 7 (fnd C (cCopy bi si 3 (nI a1) 2 (nI a2) (nI n1)))] ++ (shB cy qq bi si (va_up f 2 (va_cpy (f 3) (f 2) a1 a2 n1)))) := congrArg (fun z9 => [sO cy hh a kk dd b w ee qq ik, ia cy (hh 1) 7 z9] ++ (shB cy qq bi si (va_up f 2 (va_cpy (f 3) (f 2) a1 a2 n1)))) (show C = (fnd C (cCopy bi si 3 (nI a1) 2 (nI a2) (nI n1))) from fnd_o hcd)
                    replace hP5 := (congrArg (fun z9 => va_P D vwCl z9 _) hq9).mp hP5
                    replace hD5 := (congrArg (fun z9 => va_D _ z9) hq9).mp hD5
                    clear hq9
                    have hq9 : ([sO cy hh a kk dd b w ee qq ik, ia cy (hh 1) 7 (fnd C (cCopy bi si 3 (nI a1) 2 (nI a2) (nI n1)))] ++ (shB cy qq bi si (va_up f 2 (va_cpy (f 3) (f 2) a1 a2 n1)))) = ([sO cy hh a kk dd b w ee qq ik, ia cy (hh 1) 7 (fnd C (cCopy bi si 3 (nI a1) 2 (nI a2) (nI n1)))] ++ (shB cy qq bi si (if cCopy bi si 3 (nI a1) 2 (nI a2) (nI n1) = 7 then va_up f (bstN 2) (va_cpy (f (bstN 3)) (f (bstN 2)) (bstN (nI a1)) (bstN (nI a2)) (bstN (nI n1))) else f))) := congrArg (fun z9 => [sO cy hh a kk dd b w ee qq ik, ia cy (hh 1) 7 (fnd C (cCopy bi si 3 (nI a1) 2 (nI a2) (nI n1)))] ++ (shB cy qq bi si z9)) (show (va_up f 2 (va_cpy (f 3) (f 2) a1 a2 n1)) = (if cCopy bi si 3 (nI a1) 2 (nI a2) (nI n1) = 7 then va_up f (bstN 2) (va_cpy (f (bstN 3)) (f (bstN 2)) (bstN (nI a1)) (bstN (nI a2)) (bstN (nI n1))) else f) from by rw [if_pos hcd]; simp only [hba1, hba2, hbn, hb0, hb1, hb2, hb3])
                    replace hP5 := (congrArg (fun z9 => va_P D vwCl z9 _) hq9).mp hP5
                    replace hD5 := (congrArg (fun z9 => va_D _ z9) hq9).mp hD5
                    clear hq9
                    refine re_i () hx hb hr hlocks hP5 hD5 hS5 dX6_copy_128 ?_
                    exact (ans_o hcd (rfl))
                  · replace hP4 : va_P D vwCl ([sO cy hh a kk dd b w ee qq ik, ia cy (hh 1) 7 C] ++ (shB cy qq bi si f)) H4 := hP4
                    replace hD4 : va_D (va_A _ sz) ([sO cy hh a kk dd b w ee qq ik, ia cy (hh 1) 7 C] ++ (shB cy qq bi si f)) := hD4
                    refine lv_aload_n hx hb dX6_copy_102 rfl (lv_at hl2 2 rfl) ?_
                    refine lv_iconst (v := 0) hx hb dX6_copy_103 (by decide) ?_
                    refine cV_i (wc := [sO cy hh a kk dd b w ee qq ik, ia cy (hh 1) 7 C]) (wr := shB cy qq bi si f) (rest := []) hx hb hml hown hw hG hK hP4 hD4 hS4 hA hl2 kc_X6_find kw_2_59 [.int 0] (c_X6_find l D cy G H4.size hh a kk dd b w ee qq ik C 0 (by first | omega | assumption)) [0, 1] [2, 3, 4, 5, 6, 7, 8, 9, 10] rfl rfl rfl rfl rfl 0 rfl rfl rfl rfl rfl (Nat.le_of_ble_eq_true rfl) ⟨Nat.le_of_ble_eq_true rfl, Nat.le_of_ble_eq_true rfl⟩ dX6_copy_104 ⟨Nat.le_of_ble_eq_true rfl, Nat.le_of_ble_eq_true rfl⟩ (fun r_104 u9 H5 locs5 hu9 hP5 hD5 hS5 => ?_)
                    clear hP4 hD4 hS4 locs4 H4
                    have hr_104 := hu9
                    replace hP5 : va_P D vwCl (shB cy qq bi si f ++ ([sO cy hh a kk dd b w ee qq ik, ia cy (hh 1) 7 (upd C 0 (C 0 + 1))])) H5 := hP5
                    replace hD5 : va_D (va_A _ sz) (shB cy qq bi si f ++ ([sO cy hh a kk dd b w ee qq ik, ia cy (hh 1) 7 (upd C 0 (C 0 + 1))])) := hD5
                    replace hP5 := hP5.sub (ws' := [sO cy hh a kk dd b w ee qq ik, ia cy (hh 1) 7 (upd C 0 (C 0 + 1))] ++ (shB cy qq bi si f)) [9, 10, 0, 1, 2, 3, 4, 5, 6, 7, 8] rfl
                    replace hD5 := hD5.sub (ws' := [sO cy hh a kk dd b w ee qq ik, ia cy (hh 1) 7 (upd C 0 (C 0 + 1))] ++ (shB cy qq bi si f)) [9, 10, 0, 1, 2, 3, 4, 5, 6, 7, 8] (by decide) rfl
                    subst hr_104
                    have hcd : cCopy bi si 3 x2 2 x4 x5 = 0 := by unfold cCopy; clear hx hb hml hown hr hlocks hw hsz hA hG hK hP5 hD5 hS5 hl2; grind
                    have hq9 : ([sO cy hh a kk dd b w ee qq ik, ia cy (hh 1) 7 (upd C 0 (C 0 + 1))] ++ (shB cy qq bi si f)) = ([sO cy hh a kk dd b w ee qq ik, ia cy (hh 1) 7 (fnd C (cCopy bi si 3 x2 2 x4 x5))] ++ (shB cy qq bi si f)) := congrArg (fun z9 => [sO cy hh a kk dd b w ee qq ik, ia cy (hh 1) 7 z9] ++ (shB cy qq bi si f)) (show (upd C 0 (C 0 + 1)) = (fnd C (cCopy bi si 3 x2 2 x4 x5)) from fnd_f hcd (by decide))
                    replace hP5 := (congrArg (fun z9 => va_P D vwCl z9 _) hq9).mp hP5
                    replace hD5 := (congrArg (fun z9 => va_D _ z9) hq9).mp hD5
                    clear hq9
                    have hq9 : ([sO cy hh a kk dd b w ee qq ik, ia cy (hh 1) 7 (fnd C (cCopy bi si 3 x2 2 x4 x5))] ++ (shB cy qq bi si f)) = ([sO cy hh a kk dd b w ee qq ik, ia cy (hh 1) 7 (fnd C (cCopy bi si 3 x2 2 x4 x5))] ++ (shB cy qq bi si (if cCopy bi si 3 x2 2 x4 x5 = 7 then va_up f (bstN 2) (va_cpy (f (bstN 3)) (f (bstN 2)) (bstN x2) (bstN x4) (bstN x5)) else f))) := congrArg (fun z9 => [sO cy hh a kk dd b w ee qq ik, ia cy (hh 1) 7 (fnd C (cCopy bi si 3 x2 2 x4 x5))] ++ (shB cy qq bi si z9)) (show f = (if cCopy bi si 3 x2 2 x4 x5 = 7 then va_up f (bstN 2) (va_cpy (f (bstN 3)) (f (bstN 2)) (bstN x2) (bstN x4) (bstN x5)) else f) from (if_neg (fun z9 => absurd (hcd.symm.trans z9) (by decide))).symm)
                    replace hP5 := (congrArg (fun z9 => va_P D vwCl z9 _) hq9).mp hP5
                    replace hD5 := (congrArg (fun z9 => va_D _ z9) hq9).mp hD5
                    clear hq9
                    refine re_i () hx hb hr hlocks hP5 hD5 hS5 dX6_copy_107 ?_
                    exact (ans_f hcd (by decide) rfl)
              · replace hP2 : va_P D vwCl ([sO cy hh a kk dd b w ee qq ik, ia cy (hh 1) 7 C] ++ (shB cy qq bi si f)) H2 := hP2
                replace hD2 : va_D (va_A _ sz) ([sO cy hh a kk dd b w ee qq ik, ia cy (hh 1) 7 C] ++ (shB cy qq bi si f)) := hD2
                refine lv_aload_n hx hb dX6_copy_73 rfl (lv_at hl2 2 rfl) ?_
                refine lv_iconst (v := 2) hx hb dX6_copy_74 (by decide) ?_
                refine cV_i (wc := [sO cy hh a kk dd b w ee qq ik, ia cy (hh 1) 7 C]) (wr := shB cy qq bi si f) (rest := []) hx hb hml hown hw hG hK hP2 hD2 hS2 hA hl2 kc_X6_find kw_2_59 [.int 2] (c_X6_find l D cy G H2.size hh a kk dd b w ee qq ik C 2 (by first | omega | assumption)) [0, 1] [2, 3, 4, 5, 6, 7, 8, 9, 10] rfl rfl rfl rfl rfl 0 rfl rfl rfl rfl rfl (Nat.le_of_ble_eq_true rfl) ⟨Nat.le_of_ble_eq_true rfl, Nat.le_of_ble_eq_true rfl⟩ dX6_copy_75 ⟨Nat.le_of_ble_eq_true rfl, Nat.le_of_ble_eq_true rfl⟩ (fun r_75 u9 H3 locs3 hu9 hP3 hD3 hS3 => ?_)
                clear hP2 hD2 hS2 locs2 H2
                have hr_75 := hu9
                replace hP3 : va_P D vwCl (shB cy qq bi si f ++ ([sO cy hh a kk dd b w ee qq ik, ia cy (hh 1) 7 (upd C 2 (C 2 + 1))])) H3 := hP3
                replace hD3 : va_D (va_A _ sz) (shB cy qq bi si f ++ ([sO cy hh a kk dd b w ee qq ik, ia cy (hh 1) 7 (upd C 2 (C 2 + 1))])) := hD3
                replace hP3 := hP3.sub (ws' := [sO cy hh a kk dd b w ee qq ik, ia cy (hh 1) 7 (upd C 2 (C 2 + 1))] ++ (shB cy qq bi si f)) [9, 10, 0, 1, 2, 3, 4, 5, 6, 7, 8] rfl
                replace hD3 := hD3.sub (ws' := [sO cy hh a kk dd b w ee qq ik, ia cy (hh 1) 7 (upd C 2 (C 2 + 1))] ++ (shB cy qq bi si f)) [9, 10, 0, 1, 2, 3, 4, 5, 6, 7, 8] (by decide) rfl
                subst hr_75
                have hcd : cCopy bi si 3 x2 2 x4 x5 = 2 := by unfold cCopy; clear hx hb hml hown hr hlocks hw hsz hA hG hK hP3 hD3 hS3 hl2; grind
                have hq9 : ([sO cy hh a kk dd b w ee qq ik, ia cy (hh 1) 7 (upd C 2 (C 2 + 1))] ++ (shB cy qq bi si f)) = ([sO cy hh a kk dd b w ee qq ik, ia cy (hh 1) 7 (fnd C (cCopy bi si 3 x2 2 x4 x5))] ++ (shB cy qq bi si f)) := congrArg (fun z9 => [sO cy hh a kk dd b w ee qq ik, ia cy (hh 1) 7 z9] ++ (shB cy qq bi si f)) (show (upd C 2 (C 2 + 1)) = (fnd C (cCopy bi si 3 x2 2 x4 x5)) from fnd_f hcd (by decide))
                replace hP3 := (congrArg (fun z9 => va_P D vwCl z9 _) hq9).mp hP3
                replace hD3 := (congrArg (fun z9 => va_D _ z9) hq9).mp hD3
                clear hq9
                have hq9 : ([sO cy hh a kk dd b w ee qq ik, ia cy (hh 1) 7 (fnd C (cCopy bi si 3 x2 2 x4 x5))] ++ (shB cy qq bi si f)) = ([sO cy hh a kk dd b w ee qq ik, ia cy (hh 1) 7 (fnd C (cCopy bi si 3 x2 2 x4 x5))] ++ (shB cy qq bi si (if cCopy bi si 3 x2 2 x4 x5 = 7 then va_up f (bstN 2) (va_cpy (f (bstN 3)) (f (bstN 2)) (bstN x2) (bstN x4) (bstN x5)) else f))) := congrArg (fun z9 => [sO cy hh a kk dd b w ee qq ik, ia cy (hh 1) 7 (fnd C (cCopy bi si 3 x2 2 x4 x5))] ++ (shB cy qq bi si z9)) (show f = (if cCopy bi si 3 x2 2 x4 x5 = 7 then va_up f (bstN 2) (va_cpy (f (bstN 3)) (f (bstN 2)) (bstN x2) (bstN x4) (bstN x5)) else f) from (if_neg (fun z9 => absurd (hcd.symm.trans z9) (by decide))).symm)
                replace hP3 := (congrArg (fun z9 => va_P D vwCl z9 _) hq9).mp hP3
                replace hD3 := (congrArg (fun z9 => va_D _ z9) hq9).mp hD3
                clear hq9
                refine re_i () hx hb hr hlocks hP3 hD3 hS3 dX6_copy_78 ?_
                exact (ans_f hcd (by decide) rfl)
            · replace hP2 : va_P D vwCl ([sO cy hh a kk dd b w ee qq ik, ia cy (hh 1) 7 C] ++ (shB cy qq bi si f)) H2 := hP2
              replace hD2 : va_D (va_A _ sz) ([sO cy hh a kk dd b w ee qq ik, ia cy (hh 1) 7 C] ++ (shB cy qq bi si f)) := hD2
              refine lv_aload_n hx hb dX6_copy_54 rfl (lv_at hl2 2 rfl) ?_
              refine lv_iconst (v := 5) hx hb dX6_copy_55 (by decide) ?_
              refine cV_i (wc := [sO cy hh a kk dd b w ee qq ik, ia cy (hh 1) 7 C]) (wr := shB cy qq bi si f) (rest := []) hx hb hml hown hw hG hK hP2 hD2 hS2 hA hl2 kc_X6_find kw_2_59 [.int 5] (c_X6_find l D cy G H2.size hh a kk dd b w ee qq ik C 5 (by first | omega | assumption)) [0, 1] [2, 3, 4, 5, 6, 7, 8, 9, 10] rfl rfl rfl rfl rfl 0 rfl rfl rfl rfl rfl (Nat.le_of_ble_eq_true rfl) ⟨Nat.le_of_ble_eq_true rfl, Nat.le_of_ble_eq_true rfl⟩ dX6_copy_56 ⟨Nat.le_of_ble_eq_true rfl, Nat.le_of_ble_eq_true rfl⟩ (fun r_56 u9 H3 locs3 hu9 hP3 hD3 hS3 => ?_)
              clear hP2 hD2 hS2 locs2 H2
              have hr_56 := hu9
              replace hP3 : va_P D vwCl (shB cy qq bi si f ++ ([sO cy hh a kk dd b w ee qq ik, ia cy (hh 1) 7 (upd C 5 (C 5 + 1))])) H3 := hP3
              replace hD3 : va_D (va_A _ sz) (shB cy qq bi si f ++ ([sO cy hh a kk dd b w ee qq ik, ia cy (hh 1) 7 (upd C 5 (C 5 + 1))])) := hD3
              replace hP3 := hP3.sub (ws' := [sO cy hh a kk dd b w ee qq ik, ia cy (hh 1) 7 (upd C 5 (C 5 + 1))] ++ (shB cy qq bi si f)) [9, 10, 0, 1, 2, 3, 4, 5, 6, 7, 8] rfl
              replace hD3 := hD3.sub (ws' := [sO cy hh a kk dd b w ee qq ik, ia cy (hh 1) 7 (upd C 5 (C 5 + 1))] ++ (shB cy qq bi si f)) [9, 10, 0, 1, 2, 3, 4, 5, 6, 7, 8] (by decide) rfl
              subst hr_56
              have hcd : cCopy bi si 3 x2 2 x4 x5 = 5 := by unfold cCopy; clear hx hb hml hown hr hlocks hw hsz hA hG hK hP3 hD3 hS3 hl2; grind
              have hq9 : ([sO cy hh a kk dd b w ee qq ik, ia cy (hh 1) 7 (upd C 5 (C 5 + 1))] ++ (shB cy qq bi si f)) = ([sO cy hh a kk dd b w ee qq ik, ia cy (hh 1) 7 (fnd C (cCopy bi si 3 x2 2 x4 x5))] ++ (shB cy qq bi si f)) := congrArg (fun z9 => [sO cy hh a kk dd b w ee qq ik, ia cy (hh 1) 7 z9] ++ (shB cy qq bi si f)) (show (upd C 5 (C 5 + 1)) = (fnd C (cCopy bi si 3 x2 2 x4 x5)) from fnd_f hcd (by decide))
              replace hP3 := (congrArg (fun z9 => va_P D vwCl z9 _) hq9).mp hP3
              replace hD3 := (congrArg (fun z9 => va_D _ z9) hq9).mp hD3
              clear hq9
              have hq9 : ([sO cy hh a kk dd b w ee qq ik, ia cy (hh 1) 7 (fnd C (cCopy bi si 3 x2 2 x4 x5))] ++ (shB cy qq bi si f)) = ([sO cy hh a kk dd b w ee qq ik, ia cy (hh 1) 7 (fnd C (cCopy bi si 3 x2 2 x4 x5))] ++ (shB cy qq bi si (if cCopy bi si 3 x2 2 x4 x5 = 7 then va_up f (bstN 2) (va_cpy (f (bstN 3)) (f (bstN 2)) (bstN x2) (bstN x4) (bstN x5)) else f))) := congrArg (fun z9 => [sO cy hh a kk dd b w ee qq ik, ia cy (hh 1) 7 (fnd C (cCopy bi si 3 x2 2 x4 x5))] ++ (shB cy qq bi si z9)) (show f = (if cCopy bi si 3 x2 2 x4 x5 = 7 then va_up f (bstN 2) (va_cpy (f (bstN 3)) (f (bstN 2)) (bstN x2) (bstN x4) (bstN x5)) else f) from (if_neg (fun z9 => absurd (hcd.symm.trans z9) (by decide))).symm)
              replace hP3 := (congrArg (fun z9 => va_P D vwCl z9 _) hq9).mp hP3
              replace hD3 := (congrArg (fun z9 => va_D _ z9) hq9).mp hD3
              clear hq9
              refine re_i () hx hb hr hlocks hP3 hD3 hS3 dX6_copy_59 ?_
              exact (ans_f hcd (by decide) rfl)
        · refine lv_iload_n hx hb dX6_copy_34 rfl (lv_at hl1 4 rfl) ?_
          refine ald_q hx hb hK hP2 2 3 rfl rfl rfl 3 rfl (by first | omega | assumption) (by decide) (rfl) dX6_copy_35 ?_
          refine lv_astore (lv' := [(7, .ref (qq 4)), (6, .ref (qq 4)), (0, .ref (hh 0)), (1, .int 3), (2, .int x2), (3, .int 3), (4, .int x4), (5, .int x5)]) hx hb dX6_copy_36 hl1 (by decide) rfl (fun ls2 hl2 => ?_)
          clear hl1 ls1
          refine lv_aload hx hb dX6_copy_38 (lv_at hl2 1 rfl) ?_
          refine va_get (D := D) (ci := 2) (v := .int (bi 3)) (C := RX2) (T := TX2) (N := 3) hx hb hw iX2 hown hK hP2 6 rfl rfl 1 (by decide) (hw _ kw_2_16) (fun _ h9 => h9) rfl dX6_copy_40 ?_
          refine lv_if_eq (tgt := 54) hx hb dX6_copy_43 (by decide) (fun c_43 => ?_) (fun c_43 => ?_)
          · replace hP2 : va_P D vwCl ([sO cy hh a kk dd b w ee qq ik, ia cy (hh 1) 7 C] ++ (shB cy qq bi si f)) H2 := hP2
            replace hD2 : va_D (va_A _ sz) ([sO cy hh a kk dd b w ee qq ik, ia cy (hh 1) 7 C] ++ (shB cy qq bi si f)) := hD2
            refine lv_aload_n hx hb dX6_copy_54 rfl (lv_at hl2 2 rfl) ?_
            refine lv_iconst (v := 5) hx hb dX6_copy_55 (by decide) ?_
            refine cV_i (wc := [sO cy hh a kk dd b w ee qq ik, ia cy (hh 1) 7 C]) (wr := shB cy qq bi si f) (rest := []) hx hb hml hown hw hG hK hP2 hD2 hS2 hA hl2 kc_X6_find kw_2_59 [.int 5] (c_X6_find l D cy G H2.size hh a kk dd b w ee qq ik C 5 (by first | omega | assumption)) [0, 1] [2, 3, 4, 5, 6, 7, 8, 9, 10] rfl rfl rfl rfl rfl 0 rfl rfl rfl rfl rfl (Nat.le_of_ble_eq_true rfl) ⟨Nat.le_of_ble_eq_true rfl, Nat.le_of_ble_eq_true rfl⟩ dX6_copy_56 ⟨Nat.le_of_ble_eq_true rfl, Nat.le_of_ble_eq_true rfl⟩ (fun r_56 u9 H3 locs3 hu9 hP3 hD3 hS3 => ?_)
            clear hP2 hD2 hS2 locs2 H2
            have hr_56 := hu9
            replace hP3 : va_P D vwCl (shB cy qq bi si f ++ ([sO cy hh a kk dd b w ee qq ik, ia cy (hh 1) 7 (upd C 5 (C 5 + 1))])) H3 := hP3
            replace hD3 : va_D (va_A _ sz) (shB cy qq bi si f ++ ([sO cy hh a kk dd b w ee qq ik, ia cy (hh 1) 7 (upd C 5 (C 5 + 1))])) := hD3
            replace hP3 := hP3.sub (ws' := [sO cy hh a kk dd b w ee qq ik, ia cy (hh 1) 7 (upd C 5 (C 5 + 1))] ++ (shB cy qq bi si f)) [9, 10, 0, 1, 2, 3, 4, 5, 6, 7, 8] rfl
            replace hD3 := hD3.sub (ws' := [sO cy hh a kk dd b w ee qq ik, ia cy (hh 1) 7 (upd C 5 (C 5 + 1))] ++ (shB cy qq bi si f)) [9, 10, 0, 1, 2, 3, 4, 5, 6, 7, 8] (by decide) rfl
            subst hr_56
            have hcd : cCopy bi si 3 x2 3 x4 x5 = 5 := by unfold cCopy; clear hx hb hml hown hr hlocks hw hsz hA hG hK hP3 hD3 hS3 hl2; grind
            have hq9 : ([sO cy hh a kk dd b w ee qq ik, ia cy (hh 1) 7 (upd C 5 (C 5 + 1))] ++ (shB cy qq bi si f)) = ([sO cy hh a kk dd b w ee qq ik, ia cy (hh 1) 7 (fnd C (cCopy bi si 3 x2 3 x4 x5))] ++ (shB cy qq bi si f)) := congrArg (fun z9 => [sO cy hh a kk dd b w ee qq ik, ia cy (hh 1) 7 z9] ++ (shB cy qq bi si f)) (show (upd C 5 (C 5 + 1)) = (fnd C (cCopy bi si 3 x2 3 x4 x5)) from fnd_f hcd (by decide))
            replace hP3 := (congrArg (fun z9 => va_P D vwCl z9 _) hq9).mp hP3
            replace hD3 := (congrArg (fun z9 => va_D _ z9) hq9).mp hD3
            clear hq9
            have hq9 : ([sO cy hh a kk dd b w ee qq ik, ia cy (hh 1) 7 (fnd C (cCopy bi si 3 x2 3 x4 x5))] ++ (shB cy qq bi si f)) = ([sO cy hh a kk dd b w ee qq ik, ia cy (hh 1) 7 (fnd C (cCopy bi si 3 x2 3 x4 x5))] ++ (shB cy qq bi si (if cCopy bi si 3 x2 3 x4 x5 = 7 then va_up f (bstN 3) (va_cpy (f (bstN 3)) (f (bstN 3)) (bstN x2) (bstN x4) (bstN x5)) else f))) := congrArg (fun z9 => [sO cy hh a kk dd b w ee qq ik, ia cy (hh 1) 7 (fnd C (cCopy bi si 3 x2 3 x4 x5))] ++ (shB cy qq bi si z9)) (show f = (if cCopy bi si 3 x2 3 x4 x5 = 7 then va_up f (bstN 3) (va_cpy (f (bstN 3)) (f (bstN 3)) (bstN x2) (bstN x4) (bstN x5)) else f) from (if_neg (fun z9 => absurd (hcd.symm.trans z9) (by decide))).symm)
            replace hP3 := (congrArg (fun z9 => va_P D vwCl z9 _) hq9).mp hP3
            replace hD3 := (congrArg (fun z9 => va_D _ z9) hq9).mp hD3
            clear hq9
            refine re_i () hx hb hr hlocks hP3 hD3 hS3 dX6_copy_59 ?_
            exact (ans_f hcd (by decide) rfl)
          · refine lv_aload hx hb dX6_copy_46 (lv_at hl2 0 rfl) ?_
            refine va_get (D := D) (ci := 2) (v := .int (bi 3)) (C := RX2) (T := TX2) (N := 3) hx hb hw iX2 hown hK hP2 6 rfl rfl 1 (by decide) (hw _ kw_2_16) (fun _ h9 => h9) rfl dX6_copy_48 ?_
            refine lv_if_ne (tgt := 60) hx hb dX6_copy_51 (by decide) (fun c_51 => ?_) (fun c_51 => ?_)
            · refine lv_aload hx hb dX6_copy_60 (lv_at hl2 1 rfl) ?_
              refine va_get (D := D) (ci := 2) (v := .int (bi 3)) (C := RX2) (T := TX2) (N := 3) hx hb hw iX2 hown hK hP2 6 rfl rfl 1 (by decide) (hw _ kw_2_16) (fun _ h9 => h9) rfl dX6_copy_62 ?_
              refine lv_aload hx hb dX6_copy_65 (lv_at hl2 0 rfl) ?_
              refine va_get (D := D) (ci := 2) (v := .int (bi 3)) (C := RX2) (T := TX2) (N := 3) hx hb hw iX2 hown hK hP2 6 rfl rfl 1 (by decide) (hw _ kw_2_16) (fun _ h9 => h9) rfl dX6_copy_67 ?_
              refine lv_icmp_eq (tgt := 79) hx hb dX6_copy_70 (by decide) (fun c_70 => ?_) (fun c_70 => ?_)
              · refine lv_aload hx hb dX6_copy_79 (lv_at hl2 1 rfl) ?_
                refine lv_iload_n hx hb dX6_copy_81 rfl (lv_at hl2 4 rfl) ?_
                refine lv_iload hx hb dX6_copy_82 (lv_at hl2 7 rfl) ?_
                refine rV_i (wc := [hO cy (qq 4) (qq 8) (bi 3) (si 3), la cy (qq 8) 40 (f 3)]) (rest := []) hx hb hml hown hw hG hK hP2 hS2 hA hl2 kc_X2_hasRow kw_4_12 [.int x2, .int x5] (c_X2_hasRow l D cy G H2.size (qq 4) (qq 8) (bi 3) (si 3) (f 3) x2 x5) [6, 10] rfl 0 rfl rfl rfl rfl rfl (Nat.le_of_ble_eq_true rfl) ⟨Nat.le_of_ble_eq_true rfl, Nat.le_of_ble_eq_true rfl⟩ dX6_copy_84 ⟨Nat.le_of_ble_eq_true rfl, Nat.le_of_ble_eq_true rfl⟩ (fun r_84 H3 locs3 hr_84 hP3 hS3 => ?_)
                have hD3 := hD2
                clear hP2 hD2 hS2 locs2 H2
                subst hr_84
                refine lb_eq (tgt := 102) hx hb dX6_copy_87 (by decide) (fun c_87 => ?_) (fun c_87 => ?_)
                · replace hP3 : va_P D vwCl ([sO cy hh a kk dd b w ee qq ik, ia cy (hh 1) 7 C] ++ (shB cy qq bi si f)) H3 := hP3
                  replace hD3 : va_D (va_A _ sz) ([sO cy hh a kk dd b w ee qq ik, ia cy (hh 1) 7 C] ++ (shB cy qq bi si f)) := hD3
                  refine lv_aload_n hx hb dX6_copy_102 rfl (lv_at hl2 2 rfl) ?_
                  refine lv_iconst (v := 0) hx hb dX6_copy_103 (by decide) ?_
                  refine cV_i (wc := [sO cy hh a kk dd b w ee qq ik, ia cy (hh 1) 7 C]) (wr := shB cy qq bi si f) (rest := []) hx hb hml hown hw hG hK hP3 hD3 hS3 hA hl2 kc_X6_find kw_2_59 [.int 0] (c_X6_find l D cy G H3.size hh a kk dd b w ee qq ik C 0 (by first | omega | assumption)) [0, 1] [2, 3, 4, 5, 6, 7, 8, 9, 10] rfl rfl rfl rfl rfl 0 rfl rfl rfl rfl rfl (Nat.le_of_ble_eq_true rfl) ⟨Nat.le_of_ble_eq_true rfl, Nat.le_of_ble_eq_true rfl⟩ dX6_copy_104 ⟨Nat.le_of_ble_eq_true rfl, Nat.le_of_ble_eq_true rfl⟩ (fun r_104 u9 H4 locs4 hu9 hP4 hD4 hS4 => ?_)
                  clear hP3 hD3 hS3 locs3 H3
                  have hr_104 := hu9
                  replace hP4 : va_P D vwCl (shB cy qq bi si f ++ ([sO cy hh a kk dd b w ee qq ik, ia cy (hh 1) 7 (upd C 0 (C 0 + 1))])) H4 := hP4
                  replace hD4 : va_D (va_A _ sz) (shB cy qq bi si f ++ ([sO cy hh a kk dd b w ee qq ik, ia cy (hh 1) 7 (upd C 0 (C 0 + 1))])) := hD4
                  replace hP4 := hP4.sub (ws' := [sO cy hh a kk dd b w ee qq ik, ia cy (hh 1) 7 (upd C 0 (C 0 + 1))] ++ (shB cy qq bi si f)) [9, 10, 0, 1, 2, 3, 4, 5, 6, 7, 8] rfl
                  replace hD4 := hD4.sub (ws' := [sO cy hh a kk dd b w ee qq ik, ia cy (hh 1) 7 (upd C 0 (C 0 + 1))] ++ (shB cy qq bi si f)) [9, 10, 0, 1, 2, 3, 4, 5, 6, 7, 8] (by decide) rfl
                  subst hr_104
                  have hcd : cCopy bi si 3 x2 3 x4 x5 = 0 := by unfold cCopy; clear hx hb hml hown hr hlocks hw hsz hA hG hK hP4 hD4 hS4 hl2; grind
                  have hq9 : ([sO cy hh a kk dd b w ee qq ik, ia cy (hh 1) 7 (upd C 0 (C 0 + 1))] ++ (shB cy qq bi si f)) = ([sO cy hh a kk dd b w ee qq ik, ia cy (hh 1) 7 (fnd C (cCopy bi si 3 x2 3 x4 x5))] ++ (shB cy qq bi si f)) := congrArg (fun z9 => [sO cy hh a kk dd b w ee qq ik, ia cy (hh 1) 7 z9] ++ (shB cy qq bi si f)) (show (upd C 0 (C 0 + 1)) = (fnd C (cCopy bi si 3 x2 3 x4 x5)) from fnd_f hcd (by decide))
                  replace hP4 := (congrArg (fun z9 => va_P D vwCl z9 _) hq9).mp hP4
                  replace hD4 := (congrArg (fun z9 => va_D _ z9) hq9).mp hD4
                  clear hq9
                  have hq9 : ([sO cy hh a kk dd b w ee qq ik, ia cy (hh 1) 7 (fnd C (cCopy bi si 3 x2 3 x4 x5))] ++ (shB cy qq bi si f)) = ([sO cy hh a kk dd b w ee qq ik, ia cy (hh 1) 7 (fnd C (cCopy bi si 3 x2 3 x4 x5))] ++ (shB cy qq bi si (if cCopy bi si 3 x2 3 x4 x5 = 7 then va_up f (bstN 3) (va_cpy (f (bstN 3)) (f (bstN 3)) (bstN x2) (bstN x4) (bstN x5)) else f))) := congrArg (fun z9 => [sO cy hh a kk dd b w ee qq ik, ia cy (hh 1) 7 (fnd C (cCopy bi si 3 x2 3 x4 x5))] ++ (shB cy qq bi si z9)) (show f = (if cCopy bi si 3 x2 3 x4 x5 = 7 then va_up f (bstN 3) (va_cpy (f (bstN 3)) (f (bstN 3)) (bstN x2) (bstN x4) (bstN x5)) else f) from (if_neg (fun z9 => absurd (hcd.symm.trans z9) (by decide))).symm)
                  replace hP4 := (congrArg (fun z9 => va_P D vwCl z9 _) hq9).mp hP4
                  replace hD4 := (congrArg (fun z9 => va_D _ z9) hq9).mp hD4
                  clear hq9
                  refine re_i () hx hb hr hlocks hP4 hD4 hS4 dX6_copy_107 ?_
                  exact (ans_f hcd (by decide) rfl)
                · refine lv_aload hx hb dX6_copy_90 (lv_at hl2 0 rfl) ?_
                  refine lv_iload hx hb dX6_copy_92 (lv_at hl2 6 rfl) ?_
                  refine lv_iload hx hb dX6_copy_94 (lv_at hl2 7 rfl) ?_
                  refine rV_i (wc := [hO cy (qq 4) (qq 8) (bi 3) (si 3), la cy (qq 8) 40 (f 3)]) (rest := []) hx hb hml hown hw hG hK hP3 hS3 hA hl2 kc_X2_hasRow kw_4_12 [.int x4, .int x5] (c_X2_hasRow l D cy G H3.size (qq 4) (qq 8) (bi 3) (si 3) (f 3) x4 x5) [6, 10] rfl 0 rfl rfl rfl rfl rfl (Nat.le_of_ble_eq_true rfl) ⟨Nat.le_of_ble_eq_true rfl, Nat.le_of_ble_eq_true rfl⟩ dX6_copy_96 ⟨Nat.le_of_ble_eq_true rfl, Nat.le_of_ble_eq_true rfl⟩ (fun r_96 H4 locs4 hr_96 hP4 hS4 => ?_)
                  have hD4 := hD3
                  clear hP3 hD3 hS3 locs3 H3
                  subst hr_96
                  refine lb_ne (tgt := 108) hx hb dX6_copy_99 (by decide) (fun c_99 => ?_) (fun c_99 => ?_)
                  · have h8 := c_87
                    rw [(hso 3 (by decide)).1] at h8
                    have h9 := c_99
                    rw [(hso 3 (by decide)).1] at h9
                    obtain ⟨a1, n1, hab, rfl, rfl⟩ := row_at (by omega) h8
                    obtain ⟨a2, n2, hab2, rfl, e4⟩ := row_at (by omega) h9
                    obtain rfl : n1 = n2 := (nI_eq (by omega) (by omega)).mp e4
                    have hba1 : bstN (nI a1) = a1 := bst_n (by omega)
                    have hba2 : bstN (nI a2) = a2 := bst_n (by omega)
                    have hbn : bstN (nI n1) = n1 := bst_n (by omega)
                    refine lv_aload hx hb dX6_copy_108 (lv_at hl2 1 rfl) ?_
                    refine va_get (D := D) (ci := 2) (v := .ref (qq 8)) (C := RX2) (T := TX2) (N := 3) hx hb hw iX2 hown hK hP4 6 rfl rfl 0 (by decide) (hw _ kw_2_14) (fun _ h9 => h9) rfl dX6_copy_110 ?_
                    refine lv_iload_n hx hb dX6_copy_113 rfl (lv_at hl2 4 rfl) ?_
                    refine lv_aload hx hb dX6_copy_114 (lv_at hl2 0 rfl) ?_
                    refine va_get (D := D) (ci := 2) (v := .ref (qq 8)) (C := RX2) (T := TX2) (N := 3) hx hb hw iX2 hown hK hP4 6 rfl rfl 0 (by decide) (hw _ kw_2_14) (fun _ h9 => h9) rfl dX6_copy_116 ?_
                    refine lv_iload hx hb dX6_copy_119 (lv_at hl2 6 rfl) ?_
                    refine lv_iload hx hb dX6_copy_121 (lv_at hl2 7 rfl) ?_
                    refine acpL (f := f 3) (g := f 3) (ws' := [sO cy hh a kk dd b w ee qq ik, ia cy (hh 1) 7 C, qsB cy qq, hO cy (qq 1) (qq 5) (bi 0) (si 0), hO cy (qq 2) (qq 6) (bi 1) (si 1), hO cy (qq 3) (qq 7) (bi 2) (si 2), hO cy (qq 4) (qq 8) (bi 3) (si 3), la cy (qq 5) 40 (f 0), la cy (qq 6) 40 (f 1), la cy (qq 7) 40 (f 2), la cy (qq 8) 40 (va_cpy (f 3) (f 3) a1 a2 n1)]) hx hb hml hl2 hw hown kw_4_16 kw_2_162 kw_2_161 kw_1_9 hK hP4 hD4 hS4 10 10 1 rfl rfl rfl a1 a2 n1 rfl rfl rfl (by omega) (by omega) (by omega) (by first | decide | omega) (by first | decide | omega) rfl (Nat.le_of_ble_eq_true rfl) (Nat.le_of_ble_eq_true rfl) dX6_copy_123 (fun H5 locs5 hP5 hD5 hS5 => ?_)
                    clear hP4 hD4 hS4 locs4 H4
                    replace hP5 : va_P D vwCl ([sO cy hh a kk dd b w ee qq ik, ia cy (hh 1) 7 C] ++ (shB cy qq bi si (va_up f 3 (va_cpy (f 3) (f 3) a1 a2 n1)))) H5 := hP5
                    replace hD5 : va_D (va_A _ sz) ([sO cy hh a kk dd b w ee qq ik, ia cy (hh 1) 7 C] ++ (shB cy qq bi si (va_up f 3 (va_cpy (f 3) (f 3) a1 a2 n1)))) := hD5
                    refine lv_iload hx hb dX6_copy_126 (lv_at hl2 7 rfl) ?_
                    have hcd : cCopy bi si 3 (nI a1) 3 (nI a2) (nI n1) = 7 := by unfold cCopy; clear hx hb hml hown hr hlocks hw hsz hA hG hK hP5 hD5 hS5 hl2; grind
                    have hq9 : ([sO cy hh a kk dd b w ee qq ik, ia cy (hh 1) 7 C] ++ (shB cy qq bi si (va_up f 3 (va_cpy (f 3) (f 3) a1 a2 n1)))) = ([sO cy hh a kk dd b w ee qq ik, ia cy (hh 1) 7 (fnd C (cCopy bi si 3 (nI a1) 3 (nI a2) (nI n1)))] ++ (shB cy qq bi si (va_up f 3 (va_cpy (f 3) (f 3) a1 a2 n1)))) := congrArg (fun z9 => [sO cy hh a kk dd b w ee qq ik, ia cy (hh 1) 7 z9] ++ (shB cy qq bi si (va_up f 3 (va_cpy (f 3) (f 3) a1 a2 n1)))) (show C = (fnd C (cCopy bi si 3 (nI a1) 3 (nI a2) (nI n1))) from fnd_o hcd)
                    replace hP5 := (congrArg (fun z9 => va_P D vwCl z9 _) hq9).mp hP5
                    replace hD5 := (congrArg (fun z9 => va_D _ z9) hq9).mp hD5
                    clear hq9
                    have hq9 : ([sO cy hh a kk dd b w ee qq ik, ia cy (hh 1) 7 (fnd C (cCopy bi si 3 (nI a1) 3 (nI a2) (nI n1)))] ++ (shB cy qq bi si (va_up f 3 (va_cpy (f 3) (f 3) a1 a2 n1)))) = ([sO cy hh a kk dd b w ee qq ik, ia cy (hh 1) 7 (fnd C (cCopy bi si 3 (nI a1) 3 (nI a2) (nI n1)))] ++ (shB cy qq bi si (if cCopy bi si 3 (nI a1) 3 (nI a2) (nI n1) = 7 then va_up f (bstN 3) (va_cpy (f (bstN 3)) (f (bstN 3)) (bstN (nI a1)) (bstN (nI a2)) (bstN (nI n1))) else f))) := congrArg (fun z9 => [sO cy hh a kk dd b w ee qq ik, ia cy (hh 1) 7 (fnd C (cCopy bi si 3 (nI a1) 3 (nI a2) (nI n1)))] ++ (shB cy qq bi si z9)) (show (va_up f 3 (va_cpy (f 3) (f 3) a1 a2 n1)) = (if cCopy bi si 3 (nI a1) 3 (nI a2) (nI n1) = 7 then va_up f (bstN 3) (va_cpy (f (bstN 3)) (f (bstN 3)) (bstN (nI a1)) (bstN (nI a2)) (bstN (nI n1))) else f) from by rw [if_pos hcd]; simp only [hba1, hba2, hbn, hb0, hb1, hb2, hb3])
                    replace hP5 := (congrArg (fun z9 => va_P D vwCl z9 _) hq9).mp hP5
                    replace hD5 := (congrArg (fun z9 => va_D _ z9) hq9).mp hD5
                    clear hq9
                    refine re_i () hx hb hr hlocks hP5 hD5 hS5 dX6_copy_128 ?_
                    exact (ans_o hcd (rfl))
                  · replace hP4 : va_P D vwCl ([sO cy hh a kk dd b w ee qq ik, ia cy (hh 1) 7 C] ++ (shB cy qq bi si f)) H4 := hP4
                    replace hD4 : va_D (va_A _ sz) ([sO cy hh a kk dd b w ee qq ik, ia cy (hh 1) 7 C] ++ (shB cy qq bi si f)) := hD4
                    refine lv_aload_n hx hb dX6_copy_102 rfl (lv_at hl2 2 rfl) ?_
                    refine lv_iconst (v := 0) hx hb dX6_copy_103 (by decide) ?_
                    refine cV_i (wc := [sO cy hh a kk dd b w ee qq ik, ia cy (hh 1) 7 C]) (wr := shB cy qq bi si f) (rest := []) hx hb hml hown hw hG hK hP4 hD4 hS4 hA hl2 kc_X6_find kw_2_59 [.int 0] (c_X6_find l D cy G H4.size hh a kk dd b w ee qq ik C 0 (by first | omega | assumption)) [0, 1] [2, 3, 4, 5, 6, 7, 8, 9, 10] rfl rfl rfl rfl rfl 0 rfl rfl rfl rfl rfl (Nat.le_of_ble_eq_true rfl) ⟨Nat.le_of_ble_eq_true rfl, Nat.le_of_ble_eq_true rfl⟩ dX6_copy_104 ⟨Nat.le_of_ble_eq_true rfl, Nat.le_of_ble_eq_true rfl⟩ (fun r_104 u9 H5 locs5 hu9 hP5 hD5 hS5 => ?_)
                    clear hP4 hD4 hS4 locs4 H4
                    have hr_104 := hu9
                    replace hP5 : va_P D vwCl (shB cy qq bi si f ++ ([sO cy hh a kk dd b w ee qq ik, ia cy (hh 1) 7 (upd C 0 (C 0 + 1))])) H5 := hP5
                    replace hD5 : va_D (va_A _ sz) (shB cy qq bi si f ++ ([sO cy hh a kk dd b w ee qq ik, ia cy (hh 1) 7 (upd C 0 (C 0 + 1))])) := hD5
                    replace hP5 := hP5.sub (ws' := [sO cy hh a kk dd b w ee qq ik, ia cy (hh 1) 7 (upd C 0 (C 0 + 1))] ++ (shB cy qq bi si f)) [9, 10, 0, 1, 2, 3, 4, 5, 6, 7, 8] rfl
                    replace hD5 := hD5.sub (ws' := [sO cy hh a kk dd b w ee qq ik, ia cy (hh 1) 7 (upd C 0 (C 0 + 1))] ++ (shB cy qq bi si f)) [9, 10, 0, 1, 2, 3, 4, 5, 6, 7, 8] (by decide) rfl
                    subst hr_104
                    have hcd : cCopy bi si 3 x2 3 x4 x5 = 0 := by unfold cCopy; clear hx hb hml hown hr hlocks hw hsz hA hG hK hP5 hD5 hS5 hl2; grind
                    have hq9 : ([sO cy hh a kk dd b w ee qq ik, ia cy (hh 1) 7 (upd C 0 (C 0 + 1))] ++ (shB cy qq bi si f)) = ([sO cy hh a kk dd b w ee qq ik, ia cy (hh 1) 7 (fnd C (cCopy bi si 3 x2 3 x4 x5))] ++ (shB cy qq bi si f)) := congrArg (fun z9 => [sO cy hh a kk dd b w ee qq ik, ia cy (hh 1) 7 z9] ++ (shB cy qq bi si f)) (show (upd C 0 (C 0 + 1)) = (fnd C (cCopy bi si 3 x2 3 x4 x5)) from fnd_f hcd (by decide))
                    replace hP5 := (congrArg (fun z9 => va_P D vwCl z9 _) hq9).mp hP5
                    replace hD5 := (congrArg (fun z9 => va_D _ z9) hq9).mp hD5
                    clear hq9
                    have hq9 : ([sO cy hh a kk dd b w ee qq ik, ia cy (hh 1) 7 (fnd C (cCopy bi si 3 x2 3 x4 x5))] ++ (shB cy qq bi si f)) = ([sO cy hh a kk dd b w ee qq ik, ia cy (hh 1) 7 (fnd C (cCopy bi si 3 x2 3 x4 x5))] ++ (shB cy qq bi si (if cCopy bi si 3 x2 3 x4 x5 = 7 then va_up f (bstN 3) (va_cpy (f (bstN 3)) (f (bstN 3)) (bstN x2) (bstN x4) (bstN x5)) else f))) := congrArg (fun z9 => [sO cy hh a kk dd b w ee qq ik, ia cy (hh 1) 7 (fnd C (cCopy bi si 3 x2 3 x4 x5))] ++ (shB cy qq bi si z9)) (show f = (if cCopy bi si 3 x2 3 x4 x5 = 7 then va_up f (bstN 3) (va_cpy (f (bstN 3)) (f (bstN 3)) (bstN x2) (bstN x4) (bstN x5)) else f) from (if_neg (fun z9 => absurd (hcd.symm.trans z9) (by decide))).symm)
                    replace hP5 := (congrArg (fun z9 => va_P D vwCl z9 _) hq9).mp hP5
                    replace hD5 := (congrArg (fun z9 => va_D _ z9) hq9).mp hD5
                    clear hq9
                    refine re_i () hx hb hr hlocks hP5 hD5 hS5 dX6_copy_107 ?_
                    exact (ans_f hcd (by decide) rfl)
              · replace hP2 : va_P D vwCl ([sO cy hh a kk dd b w ee qq ik, ia cy (hh 1) 7 C] ++ (shB cy qq bi si f)) H2 := hP2
                replace hD2 : va_D (va_A _ sz) ([sO cy hh a kk dd b w ee qq ik, ia cy (hh 1) 7 C] ++ (shB cy qq bi si f)) := hD2
                refine lv_aload_n hx hb dX6_copy_73 rfl (lv_at hl2 2 rfl) ?_
                refine lv_iconst (v := 2) hx hb dX6_copy_74 (by decide) ?_
                refine cV_i (wc := [sO cy hh a kk dd b w ee qq ik, ia cy (hh 1) 7 C]) (wr := shB cy qq bi si f) (rest := []) hx hb hml hown hw hG hK hP2 hD2 hS2 hA hl2 kc_X6_find kw_2_59 [.int 2] (c_X6_find l D cy G H2.size hh a kk dd b w ee qq ik C 2 (by first | omega | assumption)) [0, 1] [2, 3, 4, 5, 6, 7, 8, 9, 10] rfl rfl rfl rfl rfl 0 rfl rfl rfl rfl rfl (Nat.le_of_ble_eq_true rfl) ⟨Nat.le_of_ble_eq_true rfl, Nat.le_of_ble_eq_true rfl⟩ dX6_copy_75 ⟨Nat.le_of_ble_eq_true rfl, Nat.le_of_ble_eq_true rfl⟩ (fun r_75 u9 H3 locs3 hu9 hP3 hD3 hS3 => ?_)
                clear hP2 hD2 hS2 locs2 H2
                have hr_75 := hu9
                replace hP3 : va_P D vwCl (shB cy qq bi si f ++ ([sO cy hh a kk dd b w ee qq ik, ia cy (hh 1) 7 (upd C 2 (C 2 + 1))])) H3 := hP3
                replace hD3 : va_D (va_A _ sz) (shB cy qq bi si f ++ ([sO cy hh a kk dd b w ee qq ik, ia cy (hh 1) 7 (upd C 2 (C 2 + 1))])) := hD3
                replace hP3 := hP3.sub (ws' := [sO cy hh a kk dd b w ee qq ik, ia cy (hh 1) 7 (upd C 2 (C 2 + 1))] ++ (shB cy qq bi si f)) [9, 10, 0, 1, 2, 3, 4, 5, 6, 7, 8] rfl
                replace hD3 := hD3.sub (ws' := [sO cy hh a kk dd b w ee qq ik, ia cy (hh 1) 7 (upd C 2 (C 2 + 1))] ++ (shB cy qq bi si f)) [9, 10, 0, 1, 2, 3, 4, 5, 6, 7, 8] (by decide) rfl
                subst hr_75
                have hcd : cCopy bi si 3 x2 3 x4 x5 = 2 := by unfold cCopy; clear hx hb hml hown hr hlocks hw hsz hA hG hK hP3 hD3 hS3 hl2; grind
                have hq9 : ([sO cy hh a kk dd b w ee qq ik, ia cy (hh 1) 7 (upd C 2 (C 2 + 1))] ++ (shB cy qq bi si f)) = ([sO cy hh a kk dd b w ee qq ik, ia cy (hh 1) 7 (fnd C (cCopy bi si 3 x2 3 x4 x5))] ++ (shB cy qq bi si f)) := congrArg (fun z9 => [sO cy hh a kk dd b w ee qq ik, ia cy (hh 1) 7 z9] ++ (shB cy qq bi si f)) (show (upd C 2 (C 2 + 1)) = (fnd C (cCopy bi si 3 x2 3 x4 x5)) from fnd_f hcd (by decide))
                replace hP3 := (congrArg (fun z9 => va_P D vwCl z9 _) hq9).mp hP3
                replace hD3 := (congrArg (fun z9 => va_D _ z9) hq9).mp hD3
                clear hq9
                have hq9 : ([sO cy hh a kk dd b w ee qq ik, ia cy (hh 1) 7 (fnd C (cCopy bi si 3 x2 3 x4 x5))] ++ (shB cy qq bi si f)) = ([sO cy hh a kk dd b w ee qq ik, ia cy (hh 1) 7 (fnd C (cCopy bi si 3 x2 3 x4 x5))] ++ (shB cy qq bi si (if cCopy bi si 3 x2 3 x4 x5 = 7 then va_up f (bstN 3) (va_cpy (f (bstN 3)) (f (bstN 3)) (bstN x2) (bstN x4) (bstN x5)) else f))) := congrArg (fun z9 => [sO cy hh a kk dd b w ee qq ik, ia cy (hh 1) 7 (fnd C (cCopy bi si 3 x2 3 x4 x5))] ++ (shB cy qq bi si z9)) (show f = (if cCopy bi si 3 x2 3 x4 x5 = 7 then va_up f (bstN 3) (va_cpy (f (bstN 3)) (f (bstN 3)) (bstN x2) (bstN x4) (bstN x5)) else f) from (if_neg (fun z9 => absurd (hcd.symm.trans z9) (by decide))).symm)
                replace hP3 := (congrArg (fun z9 => va_P D vwCl z9 _) hq9).mp hP3
                replace hD3 := (congrArg (fun z9 => va_D _ z9) hq9).mp hD3
                clear hq9
                refine re_i () hx hb hr hlocks hP3 hD3 hS3 dX6_copy_78 ?_
                exact (ans_f hcd (by decide) rfl)
            · replace hP2 : va_P D vwCl ([sO cy hh a kk dd b w ee qq ik, ia cy (hh 1) 7 C] ++ (shB cy qq bi si f)) H2 := hP2
              replace hD2 : va_D (va_A _ sz) ([sO cy hh a kk dd b w ee qq ik, ia cy (hh 1) 7 C] ++ (shB cy qq bi si f)) := hD2
              refine lv_aload_n hx hb dX6_copy_54 rfl (lv_at hl2 2 rfl) ?_
              refine lv_iconst (v := 5) hx hb dX6_copy_55 (by decide) ?_
              refine cV_i (wc := [sO cy hh a kk dd b w ee qq ik, ia cy (hh 1) 7 C]) (wr := shB cy qq bi si f) (rest := []) hx hb hml hown hw hG hK hP2 hD2 hS2 hA hl2 kc_X6_find kw_2_59 [.int 5] (c_X6_find l D cy G H2.size hh a kk dd b w ee qq ik C 5 (by first | omega | assumption)) [0, 1] [2, 3, 4, 5, 6, 7, 8, 9, 10] rfl rfl rfl rfl rfl 0 rfl rfl rfl rfl rfl (Nat.le_of_ble_eq_true rfl) ⟨Nat.le_of_ble_eq_true rfl, Nat.le_of_ble_eq_true rfl⟩ dX6_copy_56 ⟨Nat.le_of_ble_eq_true rfl, Nat.le_of_ble_eq_true rfl⟩ (fun r_56 u9 H3 locs3 hu9 hP3 hD3 hS3 => ?_)
              clear hP2 hD2 hS2 locs2 H2
              have hr_56 := hu9
              replace hP3 : va_P D vwCl (shB cy qq bi si f ++ ([sO cy hh a kk dd b w ee qq ik, ia cy (hh 1) 7 (upd C 5 (C 5 + 1))])) H3 := hP3
              replace hD3 : va_D (va_A _ sz) (shB cy qq bi si f ++ ([sO cy hh a kk dd b w ee qq ik, ia cy (hh 1) 7 (upd C 5 (C 5 + 1))])) := hD3
              replace hP3 := hP3.sub (ws' := [sO cy hh a kk dd b w ee qq ik, ia cy (hh 1) 7 (upd C 5 (C 5 + 1))] ++ (shB cy qq bi si f)) [9, 10, 0, 1, 2, 3, 4, 5, 6, 7, 8] rfl
              replace hD3 := hD3.sub (ws' := [sO cy hh a kk dd b w ee qq ik, ia cy (hh 1) 7 (upd C 5 (C 5 + 1))] ++ (shB cy qq bi si f)) [9, 10, 0, 1, 2, 3, 4, 5, 6, 7, 8] (by decide) rfl
              subst hr_56
              have hcd : cCopy bi si 3 x2 3 x4 x5 = 5 := by unfold cCopy; clear hx hb hml hown hr hlocks hw hsz hA hG hK hP3 hD3 hS3 hl2; grind
              have hq9 : ([sO cy hh a kk dd b w ee qq ik, ia cy (hh 1) 7 (upd C 5 (C 5 + 1))] ++ (shB cy qq bi si f)) = ([sO cy hh a kk dd b w ee qq ik, ia cy (hh 1) 7 (fnd C (cCopy bi si 3 x2 3 x4 x5))] ++ (shB cy qq bi si f)) := congrArg (fun z9 => [sO cy hh a kk dd b w ee qq ik, ia cy (hh 1) 7 z9] ++ (shB cy qq bi si f)) (show (upd C 5 (C 5 + 1)) = (fnd C (cCopy bi si 3 x2 3 x4 x5)) from fnd_f hcd (by decide))
              replace hP3 := (congrArg (fun z9 => va_P D vwCl z9 _) hq9).mp hP3
              replace hD3 := (congrArg (fun z9 => va_D _ z9) hq9).mp hD3
              clear hq9
              have hq9 : ([sO cy hh a kk dd b w ee qq ik, ia cy (hh 1) 7 (fnd C (cCopy bi si 3 x2 3 x4 x5))] ++ (shB cy qq bi si f)) = ([sO cy hh a kk dd b w ee qq ik, ia cy (hh 1) 7 (fnd C (cCopy bi si 3 x2 3 x4 x5))] ++ (shB cy qq bi si (if cCopy bi si 3 x2 3 x4 x5 = 7 then va_up f (bstN 3) (va_cpy (f (bstN 3)) (f (bstN 3)) (bstN x2) (bstN x4) (bstN x5)) else f))) := congrArg (fun z9 => [sO cy hh a kk dd b w ee qq ik, ia cy (hh 1) 7 (fnd C (cCopy bi si 3 x2 3 x4 x5))] ++ (shB cy qq bi si z9)) (show f = (if cCopy bi si 3 x2 3 x4 x5 = 7 then va_up f (bstN 3) (va_cpy (f (bstN 3)) (f (bstN 3)) (bstN x2) (bstN x4) (bstN x5)) else f) from (if_neg (fun z9 => absurd (hcd.symm.trans z9) (by decide))).symm)
              replace hP3 := (congrArg (fun z9 => va_P D vwCl z9 _) hq9).mp hP3
              replace hD3 := (congrArg (fun z9 => va_D _ z9) hq9).mp hD3
              clear hq9
              refine re_i () hx hb hr hlocks hP3 hD3 hS3 dX6_copy_59 ?_
              exact (ans_f hcd (by decide) rfl)
    · refine lv_aload_n hx hb dX6_copy_16 rfl (lv_at hl0 0 rfl) ?_
      refine lv_iconst (v := 0) hx hb dX6_copy_17 (by decide) ?_
      refine cV_i (wc := [sO cy hh a kk dd b w ee qq ik, ia cy (hh 1) 7 C]) (wr := shB cy qq bi si f) (rest := []) hx hb hml hown hw hG hK hP2 hD2 hS2 hA hl0 kc_X6_find kw_2_59 [.int 0] (c_X6_find l D cy G H2.size hh a kk dd b w ee qq ik C 0 (by first | omega | assumption)) [0, 1] [2, 3, 4, 5, 6, 7, 8, 9, 10] rfl rfl rfl rfl rfl 0 rfl rfl rfl rfl rfl (Nat.le_of_ble_eq_true rfl) ⟨Nat.le_of_ble_eq_true rfl, Nat.le_of_ble_eq_true rfl⟩ dX6_copy_18 ⟨Nat.le_of_ble_eq_true rfl, Nat.le_of_ble_eq_true rfl⟩ (fun r_18 u9 H3 locs3 hu9 hP3 hD3 hS3 => ?_)
      clear hP2 hD2 hS2 locs2 H2
      have hr_18 := hu9
      replace hP3 : va_P D vwCl (shB cy qq bi si f ++ ([sO cy hh a kk dd b w ee qq ik, ia cy (hh 1) 7 (upd C 0 (C 0 + 1))])) H3 := hP3
      replace hD3 : va_D (va_A _ sz) (shB cy qq bi si f ++ ([sO cy hh a kk dd b w ee qq ik, ia cy (hh 1) 7 (upd C 0 (C 0 + 1))])) := hD3
      replace hP3 := hP3.sub (ws' := [sO cy hh a kk dd b w ee qq ik, ia cy (hh 1) 7 (upd C 0 (C 0 + 1))] ++ (shB cy qq bi si f)) [9, 10, 0, 1, 2, 3, 4, 5, 6, 7, 8] rfl
      replace hD3 := hD3.sub (ws' := [sO cy hh a kk dd b w ee qq ik, ia cy (hh 1) 7 (upd C 0 (C 0 + 1))] ++ (shB cy qq bi si f)) [9, 10, 0, 1, 2, 3, 4, 5, 6, 7, 8] (by decide) rfl
      subst hr_18
      have hcd : cCopy bi si x1 x2 x3 x4 x5 = 0 := by unfold cCopy; clear hx hb hml hown hr hlocks hw hsz hA hG hK hP3 hD3 hS3 hl0; grind
      have hq9 : ([sO cy hh a kk dd b w ee qq ik, ia cy (hh 1) 7 (upd C 0 (C 0 + 1))] ++ (shB cy qq bi si f)) = ([sO cy hh a kk dd b w ee qq ik, ia cy (hh 1) 7 (fnd C (cCopy bi si x1 x2 x3 x4 x5))] ++ (shB cy qq bi si f)) := congrArg (fun z9 => [sO cy hh a kk dd b w ee qq ik, ia cy (hh 1) 7 z9] ++ (shB cy qq bi si f)) (show (upd C 0 (C 0 + 1)) = (fnd C (cCopy bi si x1 x2 x3 x4 x5)) from fnd_f hcd (by decide))
      replace hP3 := (congrArg (fun z9 => va_P D vwCl z9 _) hq9).mp hP3
      replace hD3 := (congrArg (fun z9 => va_D _ z9) hq9).mp hD3
      clear hq9
      have hq9 : ([sO cy hh a kk dd b w ee qq ik, ia cy (hh 1) 7 (fnd C (cCopy bi si x1 x2 x3 x4 x5))] ++ (shB cy qq bi si f)) = ([sO cy hh a kk dd b w ee qq ik, ia cy (hh 1) 7 (fnd C (cCopy bi si x1 x2 x3 x4 x5))] ++ (shB cy qq bi si (if cCopy bi si x1 x2 x3 x4 x5 = 7 then va_up f (bstN x3) (va_cpy (f (bstN x1)) (f (bstN x3)) (bstN x2) (bstN x4) (bstN x5)) else f))) := congrArg (fun z9 => [sO cy hh a kk dd b w ee qq ik, ia cy (hh 1) 7 (fnd C (cCopy bi si x1 x2 x3 x4 x5))] ++ (shB cy qq bi si z9)) (show f = (if cCopy bi si x1 x2 x3 x4 x5 = 7 then va_up f (bstN x3) (va_cpy (f (bstN x1)) (f (bstN x3)) (bstN x2) (bstN x4) (bstN x5)) else f) from (if_neg (fun z9 => absurd (hcd.symm.trans z9) (by decide))).symm)
      replace hP3 := (congrArg (fun z9 => va_P D vwCl z9 _) hq9).mp hP3
      replace hD3 := (congrArg (fun z9 => va_D _ z9) hq9).mp hD3
      clear hq9
      refine re_i () hx hb hr hlocks hP3 hD3 hS3 dX6_copy_21 ?_
      exact (ans_f hcd (by decide) rfl)
