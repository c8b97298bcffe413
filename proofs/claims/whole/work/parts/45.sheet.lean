theorem kc_X6_sticks : kV yX6_sticks cX6_sticks 5 (some .int) 1 := ⟨kw_3_125, kw_3_126, kw_1_1, kw_3_127, by decide, by decide, by decide +kernel⟩
set_option maxHeartbeats 4000000 in
set_option maxRecDepth 100000 in
theorem c_X6_sticks (l : Launch) (D : va_G) (cy : Nat → ClassId) (G : Nat → Nat) (sz : Nat) (hh : Nat → Nat) (a : Nat → Nat) (kk : Nat → Nat) (dd : Nat → Nat) (b : Nat → Nat) (w : Nat → Nat) (ee : Nat → Nat) (qq : Nat → Nat) (ik : Int32) (S : Nat → Int32) (C : Nat → Int32) (P : Nat → Int32) (F : Nat → Int32) (N : Nat → Int32) (B : Nat → Int32) (O : Nat → Int32) (Sd : Nat → Int32) (Dv : Nat → Int32) (L : Nat → Nat → Int32) (rc : Int32) (re : Int32) (fr : Int32) (lo : Int32) (sm : Int32) (bi : Nat → Int32) (si : Nat → Int32) (f : Nat → Nat → Int64) (x1 : Int32) (hso : shOk si f) (wf : wf S) : Met l yX6_sticks (wm yX6_sticks cX6_sticks 5 (some .int)) { frames := 5, cells := 0, slots := 0, locals := 109 } (va_Pc [.ref (hh 0), .int x1] (pr D (TY cy) G ([sO cy hh a kk dd b w ee qq ik] ++ (pS cy a S ++ ([ia cy (hh 1) 7 C] ++ (aS cy b P F N B O Sd Dv L rc re fr lo sm ++ (shB cy qq bi si f))))) sz)) (va_Qi (fun (r : Int32) (u : (Nat → Int32) × (Nat → Int32) × (Nat → Int32) × (Nat → Int32) × (Nat → Int32) × (Nat → Int32) × (Nat → Int32) × (Nat → Nat → Int32) × Int32 × Int32 × Int32 × Int32 × Int32) => r = ans (cSh bi x1) (nI (minN (bstN (si (bstN x1))) (gcN S)))) (fun (u : (Nat → Int32) × (Nat → Int32) × (Nat → Int32) × (Nat → Int32) × (Nat → Int32) × (Nat → Int32) × (Nat → Int32) × (Nat → Nat → Int32) × Int32 × Int32 × Int32 × Int32 × Int32) t => po D (va_A ([sO cy hh a kk dd b w ee qq ik] ++ (pS cy a S ++ ([ia cy (hh 1) 7 C] ++ (aS cy b P F N B O Sd Dv L rc re fr lo sm ++ (shB cy qq bi si f))))) sz) ([sO cy hh a kk dd b w ee qq ik] ++ (pS cy a (if cSh bi x1 = 7 then drwN S (minN (bstN (si (bstN x1))) (gcN S)) else S) ++ ([ia cy (hh 1) 7 (fnd C (cSh bi x1))] ++ (aS cy b u.1 u.2.1 u.2.2.1 u.2.2.2.1 u.2.2.2.2.1 u.2.2.2.2.2.1 u.2.2.2.2.2.2.1 u.2.2.2.2.2.2.2.1 u.2.2.2.2.2.2.2.2.1 u.2.2.2.2.2.2.2.2.2.1 u.2.2.2.2.2.2.2.2.2.2.1 u.2.2.2.2.2.2.2.2.2.2.2.1 u.2.2.2.2.2.2.2.2.2.2.2.2 ++ (shB cy qq bi si (if cSh bi x1 = 7 then va_up f (bstN x1) (stkF S (f (bstN x1)) (minN (bstN (si (bstN x1))) (gcN S))) else f)))))) t) (va_A ([sO cy hh a kk dd b w ee qq ik] ++ (pS cy a S ++ ([ia cy (hh 1) 7 C] ++ (aS cy b P F N B O Sd Dv L rc re fr lo sm ++ (shB cy qq bi si f))))) sz)) 0 0 (va_A ([sO cy hh a kk dd b w ee qq ik] ++ (pS cy a S ++ ([ia cy (hh 1) 7 C] ++ (aS cy b P F N B O Sd Dv L rc re fr lo sm ++ (shB cy qq bi si f))))) sz) := by
  refine mk_rw (by decide) RX6 rfl (Nat.le_of_ble_eq_true rfl) [(0, .ref (hh 0)), (1, .int x1)] rfl ?_
  intro p e s m below meth c hx hb hml hown hr hlocks hin hw hsz hA hG hK H0 locs0 hP0 hD0 hS0 ls0 hl0
  clear hin
  have hg20 := wf_g20 wf
  have hr6 := wf_r6 wf
  have hz0 := (hso 0 (by decide)).1
  have hz1 := (hso 1 (by decide)).1
  have hz2 := (hso 2 (by decide)).1
  have hz3 := (hso 3 (by decide)).1
  have hq0 := (hso 0 (by decide)).2.1
  have hq1 := (hso 1 (by decide)).2.1
  have hq2 := (hso 2 (by decide)).2.1
  have hq3 := (hso 3 (by decide)).2.1
  have hb0 : bstN 0 = 0 := rfl
  have hb1 : bstN 1 = 1 := rfl
  have hb2 : bstN 2 = 2 := rfl
  have hb3 : bstN 3 = 3 := rfl
  refine lv_aload_n hx hb dX6_sticks_0 rfl (lv_at hl0 0 rfl) ?_
  refine lv_iload_n hx hb dX6_sticks_1 rfl (lv_at hl0 1 rfl) ?_
  refine rV_i (wc := [sO cy hh a kk dd b w ee qq ik]) (rest := []) hx hb hml hown hw hG hK hP0 hS0 hA hl0 kc_X6_isSheet kw_3_128 [.int x1] (c_X6_isSheet l D cy G H0.size hh a kk dd b w ee qq ik x1) [0] rfl 0 rfl rfl rfl rfl rfl (Nat.le_of_ble_eq_true rfl) ⟨Nat.le_of_ble_eq_true rfl, Nat.le_of_ble_eq_true rfl⟩ dX6_sticks_2 ⟨Nat.le_of_ble_eq_true rfl, Nat.le_of_ble_eq_true rfl⟩ (fun r_2 H1 locs1 hr_2 hP1 hS1 => ?_)
  have hD1 := hD0
  clear hP0 hD0 hS0 locs0 H0
  subst hr_2
  refine lb_ne (tgt := 14) hx hb dX6_sticks_5 (by decide) (fun c_5 => ?_) (fun c_5 => ?_)
  · rcases in3 c_5 with rfl | rfl | rfl | rfl
    · replace hP1 : va_P D vwCl ([sO cy hh a kk dd b w ee qq ik] ++ (pS cy a S ++ ([ia cy (hh 1) 7 C] ++ (aS cy b P F N B O Sd Dv L rc re fr lo sm ++ ([qsB cy qq, hO cy (qq 1) (qq 5) (bi 0) (si 0), hO cy (qq 2) (qq 6) (bi 1) (si 1), hO cy (qq 3) (qq 7) (bi 2) (si 2), hO cy (qq 4) (qq 8) (bi 3) (si 3), la cy (qq 5) 40 (f 0), la cy (qq 6) 40 (f 1), la cy (qq 7) 40 (f 2), la cy (qq 8) 40 (f 3)]))))) H1 := hP1
      replace hD1 : va_D (va_A _ sz) ([sO cy hh a kk dd b w ee qq ik] ++ (pS cy a S ++ ([ia cy (hh 1) 7 C] ++ (aS cy b P F N B O Sd Dv L rc re fr lo sm ++ ([qsB cy qq, hO cy (qq 1) (qq 5) (bi 0) (si 0), hO cy (qq 2) (qq 6) (bi 1) (si 1), hO cy (qq 3) (qq 7) (bi 2) (si 2), hO cy (qq 4) (qq 8) (bi 3) (si 3), la cy (qq 5) 40 (f 0), la cy (qq 6) 40 (f 1), la cy (qq 7) 40 (f 2), la cy (qq 8) 40 (f 3)]))))) := hD1
      refine lv_aload_n hx hb dX6_sticks_14 rfl (lv_at hl0 0 rfl) ?_
      refine va_get (D := D) (ci := 6) (v := .ref (qq 0)) (C := RX6) (T := TX6) (N := 9) hx hb hw iX6 hown hK hP1 0 rfl rfl 7 (by decide) (hw _ kw_2_34) (fun _ h9 => h9) rfl dX6_sticks_15 ?_
      refine lv_iload_n hx hb dX6_sticks_18 rfl (lv_at hl0 1 rfl) ?_
      refine ald_q hx hb hK hP1 27 3 rfl rfl rfl 0 rfl (by first | omega | assumption) (by decide) (rfl) dX6_sticks_19 ?_
      refine lv_astore_n (lv' := [(2, .ref (qq 1)), (0, .ref (hh 0)), (1, .int 0)]) hx hb dX6_sticks_20 rfl hl0 (by decide) rfl (fun ls1 hl1 => ?_)
      clear hl0 ls0
      refine lv_aload_n hx hb dX6_sticks_21 rfl (lv_at hl1 0 rfl) ?_
      refine va_get (D := D) (ci := 2) (v := .int (bi 0)) (C := RX2) (T := TX2) (N := 3) hx hb hw iX2 hown hK hP1 28 rfl rfl 1 (by decide) (hw _ kw_2_16) (fun _ h9 => h9) rfl dX6_sticks_22 ?_
      refine lv_if_ne (tgt := 34) hx hb dX6_sticks_25 (by decide) (fun c_25 => ?_) (fun c_25 => ?_)
      · refine lv_aload_n hx hb dX6_sticks_34 rfl (lv_at hl1 1 rfl) ?_
        refine va_get (D := D) (ci := 6) (v := .ref (b 0)) (C := RX6) (T := TX6) (N := 9) hx hb hw iX6 hown hK hP1 0 rfl rfl 4 (by decide) (hw _ kw_2_31) (fun _ h9 => h9) rfl dX6_sticks_35 ?_
        refine lv_aload_n hx hb dX6_sticks_38 rfl (lv_at hl1 1 rfl) ?_
        refine va_get (D := D) (ci := 6) (v := .ref (a 0)) (C := RX6) (T := TX6) (N := 9) hx hb hw iX6 hown hK hP1 0 rfl rfl 0 (by decide) (hw _ kw_2_27) (fun _ h9 => h9) rfl dX6_sticks_39 ?_
        refine cV_v (wc := aS cy b P F N B O Sd Dv L rc re fr lo sm ++ (pS cy a S)) (wr := [sO cy hh a kk dd b w ee qq ik, ia cy (hh 1) 7 C, qsB cy qq, hO cy (qq 1) (qq 5) (bi 0) (si 0), hO cy (qq 2) (qq 6) (bi 1) (si 1), hO cy (qq 3) (qq 7) (bi 2) (si 2), hO cy (qq 4) (qq 8) (bi 3) (si 3), la cy (qq 5) 40 (f 0), la cy (qq 6) 40 (f 1), la cy (qq 7) 40 (f 2), la cy (qq 8) 40 (f 3)]) (rest := []) hx hb hml hown hw hG hK hP1 hD1 hS1 hA hl1 kc_X0_settle kw_3_52 [.ref (a 0)] (c_X0_settle l D cy G H1.size b P F N B O Sd Dv L rc re fr lo sm a S (by first | omega | assumption)) [12, 13, 14, 15, 16, 17, 18, 19, 20, 21, 22, 23, 24, 25, 26, 1, 2, 3, 4, 5, 6, 7, 8, 9, 10] [0, 11, 27, 28, 29, 30, 31, 32, 33, 34, 35] rfl rfl rfl rfl rfl 0 rfl rfl rfl rfl rfl (Nat.le_of_ble_eq_true rfl) ⟨Nat.le_of_ble_eq_true rfl, Nat.le_of_ble_eq_true rfl⟩ dX6_sticks_42 ⟨Nat.le_of_ble_eq_true rfl, Nat.le_of_ble_eq_true rfl⟩ (fun u9 H2 locs2 hu9 hP2 hD2 hS2 => ?_)
        clear hP1 hD1 hS1 locs1 H1
        obtain ⟨F1_42, N1_42, B1_42, O1_42, Sd1_42, Dv1_42, L1_42⟩ := u9
        have hF_42 := hu9
        replace hF_42 : ∀ g, g < gcN S → F1_42 g = flow S (PR S) g := hF_42
        replace hP2 : va_P D vwCl ([sO cy hh a kk dd b w ee qq ik, ia cy (hh 1) 7 C, qsB cy qq, hO cy (qq 1) (qq 5) (bi 0) (si 0), hO cy (qq 2) (qq 6) (bi 1) (si 1), hO cy (qq 3) (qq 7) (bi 2) (si 2), hO cy (qq 4) (qq 8) (bi 3) (si 3), la cy (qq 5) 40 (f 0), la cy (qq 6) 40 (f 1), la cy (qq 7) 40 (f 2), la cy (qq 8) 40 (f 3)] ++ (aS cy b (PR S) F1_42 N1_42 B1_42 O1_42 Sd1_42 Dv1_42 L1_42 (nI (RC S)) (b2i (RC S = 60)) (fresh S) (lost S) (b2i (smokes S = true)) ++ (pS cy a S))) H2 := hP2
        replace hD2 : va_D (va_A _ sz) ([sO cy hh a kk dd b w ee qq ik, ia cy (hh 1) 7 C, qsB cy qq, hO cy (qq 1) (qq 5) (bi 0) (si 0), hO cy (qq 2) (qq 6) (bi 1) (si 1), hO cy (qq 3) (qq 7) (bi 2) (si 2), hO cy (qq 4) (qq 8) (bi 3) (si 3), la cy (qq 5) 40 (f 0), la cy (qq 6) 40 (f 1), la cy (qq 7) 40 (f 2), la cy (qq 8) 40 (f 3)] ++ (aS cy b (PR S) F1_42 N1_42 B1_42 O1_42 Sd1_42 Dv1_42 L1_42 (nI (RC S)) (b2i (RC S = 60)) (fresh S) (lost S) (b2i (smokes S = true)) ++ (pS cy a S))) := hD2
        replace hP2 := hP2.sub (ws' := [sO cy hh a kk dd b w ee qq ik] ++ (pS cy a S ++ ([ia cy (hh 1) 7 C] ++ (aS cy b (PR S) F1_42 N1_42 B1_42 O1_42 Sd1_42 Dv1_42 L1_42 (nI (RC S)) (b2i (RC S = 60)) (fresh S) (lost S) (b2i (smokes S = true)) ++ ([qsB cy qq, hO cy (qq 1) (qq 5) (bi 0) (si 0), hO cy (qq 2) (qq 6) (bi 1) (si 1), hO cy (qq 3) (qq 7) (bi 2) (si 2), hO cy (qq 4) (qq 8) (bi 3) (si 3), la cy (qq 5) 40 (f 0), la cy (qq 6) 40 (f 1), la cy (qq 7) 40 (f 2), la cy (qq 8) 40 (f 3)]))))) [0, 26, 27, 28, 29, 30, 31, 32, 33, 34, 35, 1, 11, 12, 13, 14, 15, 16, 17, 18, 19, 20, 21, 22, 23, 24, 25, 2, 3, 4, 5, 6, 7, 8, 9, 10] rfl
        replace hD2 := hD2.sub (ws' := [sO cy hh a kk dd b w ee qq ik] ++ (pS cy a S ++ ([ia cy (hh 1) 7 C] ++ (aS cy b (PR S) F1_42 N1_42 B1_42 O1_42 Sd1_42 Dv1_42 L1_42 (nI (RC S)) (b2i (RC S = 60)) (fresh S) (lost S) (b2i (smokes S = true)) ++ ([qsB cy qq, hO cy (qq 1) (qq 5) (bi 0) (si 0), hO cy (qq 2) (qq 6) (bi 1) (si 1), hO cy (qq 3) (qq 7) (bi 2) (si 2), hO cy (qq 4) (qq 8) (bi 3) (si 3), la cy (qq 5) 40 (f 0), la cy (qq 6) 40 (f 1), la cy (qq 7) 40 (f 2), la cy (qq 8) 40 (f 3)]))))) [0, 26, 27, 28, 29, 30, 31, 32, 33, 34, 35, 1, 11, 12, 13, 14, 15, 16, 17, 18, 19, 20, 21, 22, 23, 24, 25, 2, 3, 4, 5, 6, 7, 8, 9, 10] (by decide) rfl
        refine lv_aload_n hx hb dX6_sticks_45 rfl (lv_at hl1 1 rfl) ?_
        refine va_get (D := D) (ci := 6) (v := .ref (a 0)) (C := RX6) (T := TX6) (N := 9) hx hb hw iX6 hown hK hP2 0 rfl rfl 0 (by decide) (hw _ kw_2_27) (fun _ h9 => h9) rfl dX6_sticks_46 ?_
        refine va_get (D := D) (ci := 1) (v := .int (S 1)) (C := RX1) (T := TX1) (N := 12) hx hb hw iX1 hown hK hP2 1 rfl rfl 1 (by decide) (hw _ kw_1_35) (fun _ h9 => h9) rfl dX6_sticks_49 ?_
        refine tp (show (S 1) = nI (gcN S) from wf_g wf) ?_
        refine lv_aload_n hx hb dX6_sticks_52 rfl (lv_at hl1 0 rfl) ?_
        refine va_get (D := D) (ci := 2) (v := .int (si 0)) (C := RX2) (T := TX2) (N := 3) hx hb hw iX2 hown hK hP2 28 rfl rfl 2 (by decide) (hw _ kw_2_18) (fun _ h9 => h9) rfl dX6_sticks_53 ?_
        refine tp (show (si 0) = nI (bstN (si 0)) from (hso 0 (by decide)).1) ?_
        refine va_mmin hx hb (by rw [hml]; exact hl1.1.symm) hown (hw _ kw_3_98) (hw _ kw_2_179) (hw _ kw_1_10) (hw _ kwm_min) (Nat.le_of_ble_eq_true rfl) (Nat.le_of_ble_eq_true rfl) (Nat.le_of_ble_eq_true rfl) (Nat.le_of_ble_eq_true rfl) dX6_sticks_56 ?_
        refine tp (show (if (nI (bstN (si 0))) < (nI (gcN S)) then (nI (bstN (si 0))) else (nI (gcN S))) = nI (minN (bstN (si 0)) (gcN S)) from min_nI (by omega) (by omega)) ?_
        refine lv_istore_n (lv' := [(3, .int (nI (minN (bstN (si 0)) (gcN S)))), (2, .ref (qq 1)), (0, .ref (hh 0)), (1, .int 0)]) hx hb dX6_sticks_59 rfl hl1 (by decide) rfl (fun ls2 hl2 => ?_)
        clear hl1 ls1
        have hmn := minN_l (bstN (si 0)) (gcN S)
        refine lv_iconst (v := 0) hx hb dX6_sticks_60 (by decide) ?_
        refine lv_istore (lv' := [(4, .int 0), (3, .int (nI (minN (bstN (si 0)) (gcN S)))), (2, .ref (qq 1)), (0, .ref (hh 0)), (1, .int 0)]) hx hb dX6_sticks_61 hl2 (by decide) rfl (fun ls3 hl3 => ?_)
        clear hl2 ls2
        have hq9 : ([sO cy hh a kk dd b w ee qq ik] ++ (pS cy a S ++ ([ia cy (hh 1) 7 C] ++ (aS cy b (PR S) F1_42 N1_42 B1_42 O1_42 Sd1_42 Dv1_42 L1_42 (nI (RC S)) (b2i (RC S = 60)) (fresh S) (lost S) (b2i (smokes S = true)) ++ ([qsB cy qq, hO cy (qq 1) (qq 5) (bi 0) (si 0), hO cy (qq 2) (qq 6) (bi 1) (si 1), hO cy (qq 3) (qq 7) (bi 2) (si 2), hO cy (qq 4) (qq 8) (bi 3) (si 3), la cy (qq 5) 40 (f 0), la cy (qq 6) 40 (f 1), la cy (qq 7) 40 (f 2), la cy (qq 8) 40 (f 3)]))))) = ([sO cy hh a kk dd b w ee qq ik] ++ (pS cy a (drwN S 0) ++ ([ia cy (hh 1) 7 C] ++ (aS cy b (PR S) F1_42 N1_42 B1_42 O1_42 Sd1_42 Dv1_42 L1_42 (nI (RC S)) (b2i (RC S = 60)) (fresh S) (lost S) (b2i (smokes S = true)) ++ ([qsB cy qq, hO cy (qq 1) (qq 5) (bi 0) (si 0), hO cy (qq 2) (qq 6) (bi 1) (si 1), hO cy (qq 3) (qq 7) (bi 2) (si 2), hO cy (qq 4) (qq 8) (bi 3) (si 3), la cy (qq 5) 40 (f 0), la cy (qq 6) 40 (f 1), la cy (qq 7) 40 (f 2), la cy (qq 8) 40 (f 3)]))))) := congrArg (fun z9 => [sO cy hh a kk dd b w ee qq ik] ++ (pS cy a z9 ++ ([ia cy (hh 1) 7 C] ++ (aS cy b (PR S) F1_42 N1_42 B1_42 O1_42 Sd1_42 Dv1_42 L1_42 (nI (RC S)) (b2i (RC S = 60)) (fresh S) (lost S) (b2i (smokes S = true)) ++ ([qsB cy qq, hO cy (qq 1) (qq 5) (bi 0) (si 0), hO cy (qq 2) (qq 6) (bi 1) (si 1), hO cy (qq 3) (qq 7) (bi 2) (si 2), hO cy (qq 4) (qq 8) (bi 3) (si 3), la cy (qq 5) 40 (f 0), la cy (qq 6) 40 (f 1), la cy (qq 7) 40 (f 2), la cy (qq 8) 40 (f 3)]))))) (show S = (drwN S 0) from rfl)
        replace hP2 := (congrArg (fun z9 => va_P D vwCl z9 _) hq9).mp hP2
        replace hD2 := (congrArg (fun z9 => va_D _ z9) hq9).mp hD2
        clear hq9
        have hq9 : ([sO cy hh a kk dd b w ee qq ik] ++ (pS cy a (drwN S 0) ++ ([ia cy (hh 1) 7 C] ++ (aS cy b (PR S) F1_42 N1_42 B1_42 O1_42 Sd1_42 Dv1_42 L1_42 (nI (RC S)) (b2i (RC S = 60)) (fresh S) (lost S) (b2i (smokes S = true)) ++ ([qsB cy qq, hO cy (qq 1) (qq 5) (bi 0) (si 0), hO cy (qq 2) (qq 6) (bi 1) (si 1), hO cy (qq 3) (qq 7) (bi 2) (si 2), hO cy (qq 4) (qq 8) (bi 3) (si 3), la cy (qq 5) 40 (f 0), la cy (qq 6) 40 (f 1), la cy (qq 7) 40 (f 2), la cy (qq 8) 40 (f 3)]))))) = ([sO cy hh a kk dd b w ee qq ik] ++ (pS cy a (drwN S 0) ++ ([ia cy (hh 1) 7 C] ++ (aS cy b (PR S) F1_42 N1_42 B1_42 O1_42 Sd1_42 Dv1_42 L1_42 (nI (RC S)) (b2i (RC S = 60)) (fresh S) (lost S) (b2i (smokes S = true)) ++ ([qsB cy qq, hO cy (qq 1) (qq 5) (bi 0) (si 0), hO cy (qq 2) (qq 6) (bi 1) (si 1), hO cy (qq 3) (qq 7) (bi 2) (si 2), hO cy (qq 4) (qq 8) (bi 3) (si 3), la cy (qq 5) 40 (stkF S (f 0) 0), la cy (qq 6) 40 (f 1), la cy (qq 7) 40 (f 2), la cy (qq 8) 40 (f 3)]))))) := congrArg (fun z9 => [sO cy hh a kk dd b w ee qq ik] ++ (pS cy a (drwN S 0) ++ ([ia cy (hh 1) 7 C] ++ (aS cy b (PR S) F1_42 N1_42 B1_42 O1_42 Sd1_42 Dv1_42 L1_42 (nI (RC S)) (b2i (RC S = 60)) (fresh S) (lost S) (b2i (smokes S = true)) ++ ([qsB cy qq, hO cy (qq 1) (qq 5) (bi 0) (si 0), hO cy (qq 2) (qq 6) (bi 1) (si 1), hO cy (qq 3) (qq 7) (bi 2) (si 2), hO cy (qq 4) (qq 8) (bi 3) (si 3), la cy (qq 5) 40 z9, la cy (qq 6) 40 (f 1), la cy (qq 7) 40 (f 2), la cy (qq 8) 40 (f 3)]))))) (show (f 0) = (stkF S (f 0) 0) from rfl)
        replace hP2 := (congrArg (fun z9 => va_P D vwCl z9 _) hq9).mp hP2
        replace hD2 := (congrArg (fun z9 => va_D _ z9) hq9).mp hD2
        clear hq9
        refine wlp (ι := Nat) (nL := 5) (fun x9 => (x9 ≤ minN (bstN (si 0)) (gcN S))) (fun x9 => [sO cy hh a kk dd b w ee qq ik] ++ (pS cy a (drwN S x9) ++ ([ia cy (hh 1) 7 C] ++ (aS cy b (PR S) F1_42 N1_42 B1_42 O1_42 Sd1_42 Dv1_42 L1_42 (nI (RC S)) (b2i (RC S = 60)) (fresh S) (lost S) (b2i (smokes S = true)) ++ ([qsB cy qq, hO cy (qq 1) (qq 5) (bi 0) (si 0), hO cy (qq 2) (qq 6) (bi 1) (si 1), hO cy (qq 3) (qq 7) (bi 2) (si 2), hO cy (qq 4) (qq 8) (bi 3) (si 3), la cy (qq 5) 40 (stkF S (f 0) x9), la cy (qq 6) 40 (f 1), la cy (qq 7) 40 (f 2), la cy (qq 8) 40 (f 3)]))))) (fun x9 => [(4, .int (nI x9)), (3, .int (nI (minN (bstN (si 0)) (gcN S)))), (2, .ref (qq 1)), (0, .ref (hh 0)), (1, .int 0)]) (fun x9 => []) (fun x9 => minN (bstN (si 0)) (gcN S) - x9) 63 ?_ 0 (by first | omega | assumption | rfl | simp_all) rfl hP2 hD2 hS2 (lv_sub hl3 [0, 1, 2, 3, 4] rfl)
        clear hP2 hD2 hS2 locs2 H2 hl3 ls3
        intro x9 hI ih_63 H3 locs3 ls4 hP3 hD3 hS3 hl4
        obtain ⟨i, rfl⟩ : ∃ z9, z9 = x9 := ⟨_, rfl⟩
        have hi := hI
        replace hi : i ≤ minN (bstN (si 0)) (gcN S) := hi
        replace hP3 : va_P D vwCl ([sO cy hh a kk dd b w ee qq ik] ++ (pS cy a (drwN S i) ++ ([ia cy (hh 1) 7 C] ++ (aS cy b (PR S) F1_42 N1_42 B1_42 O1_42 Sd1_42 Dv1_42 L1_42 (nI (RC S)) (b2i (RC S = 60)) (fresh S) (lost S) (b2i (smokes S = true)) ++ ([qsB cy qq, hO cy (qq 1) (qq 5) (bi 0) (si 0), hO cy (qq 2) (qq 6) (bi 1) (si 1), hO cy (qq 3) (qq 7) (bi 2) (si 2), hO cy (qq 4) (qq 8) (bi 3) (si 3), la cy (qq 5) 40 (stkF S (f 0) i), la cy (qq 6) 40 (f 1), la cy (qq 7) 40 (f 2), la cy (qq 8) 40 (f 3)]))))) H3 := hP3
        replace hD3 : va_D (va_A _ sz) ([sO cy hh a kk dd b w ee qq ik] ++ (pS cy a (drwN S i) ++ ([ia cy (hh 1) 7 C] ++ (aS cy b (PR S) F1_42 N1_42 B1_42 O1_42 Sd1_42 Dv1_42 L1_42 (nI (RC S)) (b2i (RC S = 60)) (fresh S) (lost S) (b2i (smokes S = true)) ++ ([qsB cy qq, hO cy (qq 1) (qq 5) (bi 0) (si 0), hO cy (qq 2) (qq 6) (bi 1) (si 1), hO cy (qq 3) (qq 7) (bi 2) (si 2), hO cy (qq 4) (qq 8) (bi 3) (si 3), la cy (qq 5) 40 (stkF S (f 0) i), la cy (qq 6) 40 (f 1), la cy (qq 7) 40 (f 2), la cy (qq 8) 40 (f 3)]))))) := hD3
        replace hl4 : lv_has ls4 5 [(4, .int (nI i)), (3, .int (nI (minN (bstN (si 0)) (gcN S)))), (2, .ref (qq 1)), (0, .ref (hh 0)), (1, .int 0)] := hl4
        show W p l e _ s m _ below meth c _ _ _ _ _ (F0 m 63 ls4 [])
        refine lv_iload hx hb dX6_sticks_63 (lv_at hl4 0 rfl) ?_
        refine lv_iload_n hx hb dX6_sticks_65 rfl (lv_at hl4 1 rfl) ?_
        refine ln_ge (tgt := 88) i (minN (bstN (si 0)) (gcN S)) rfl rfl (by omega) (by omega) hx hb dX6_sticks_66 (by decide) (fun c_66 => ?_) (fun c_66 => ?_)
        · have hie : i = minN (bstN (si 0)) (gcN S) := (by omega)
          have hq9 : ([sO cy hh a kk dd b w ee qq ik] ++ (pS cy a (drwN S i) ++ ([ia cy (hh 1) 7 C] ++ (aS cy b (PR S) F1_42 N1_42 B1_42 O1_42 Sd1_42 Dv1_42 L1_42 (nI (RC S)) (b2i (RC S = 60)) (fresh S) (lost S) (b2i (smokes S = true)) ++ ([qsB cy qq, hO cy (qq 1) (qq 5) (bi 0) (si 0), hO cy (qq 2) (qq 6) (bi 1) (si 1), hO cy (qq 3) (qq 7) (bi 2) (si 2), hO cy (qq 4) (qq 8) (bi 3) (si 3), la cy (qq 5) 40 (stkF S (f 0) i), la cy (qq 6) 40 (f 1), la cy (qq 7) 40 (f 2), la cy (qq 8) 40 (f 3)]))))) = ([sO cy hh a kk dd b w ee qq ik] ++ (pS cy a (drwN S (minN (bstN (si 0)) (gcN S))) ++ ([ia cy (hh 1) 7 C] ++ (aS cy b (PR S) F1_42 N1_42 B1_42 O1_42 Sd1_42 Dv1_42 L1_42 (nI (RC S)) (b2i (RC S = 60)) (fresh S) (lost S) (b2i (smokes S = true)) ++ ([qsB cy qq, hO cy (qq 1) (qq 5) (bi 0) (si 0), hO cy (qq 2) (qq 6) (bi 1) (si 1), hO cy (qq 3) (qq 7) (bi 2) (si 2), hO cy (qq 4) (qq 8) (bi 3) (si 3), la cy (qq 5) 40 (stkF S (f 0) i), la cy (qq 6) 40 (f 1), la cy (qq 7) 40 (f 2), la cy (qq 8) 40 (f 3)]))))) := congrArg (fun z9 => [sO cy hh a kk dd b w ee qq ik] ++ (pS cy a z9 ++ ([ia cy (hh 1) 7 C] ++ (aS cy b (PR S) F1_42 N1_42 B1_42 O1_42 Sd1_42 Dv1_42 L1_42 (nI (RC S)) (b2i (RC S = 60)) (fresh S) (lost S) (b2i (smokes S = true)) ++ ([qsB cy qq, hO cy (qq 1) (qq 5) (bi 0) (si 0), hO cy (qq 2) (qq 6) (bi 1) (si 1), hO cy (qq 3) (qq 7) (bi 2) (si 2), hO cy (qq 4) (qq 8) (bi 3) (si 3), la cy (qq 5) 40 (stkF S (f 0) i), la cy (qq 6) 40 (f 1), la cy (qq 7) 40 (f 2), la cy (qq 8) 40 (f 3)]))))) (show (drwN S i) = (drwN S (minN (bstN (si 0)) (gcN S))) from by rw [hie])
          replace hP3 := (congrArg (fun z9 => va_P D vwCl z9 _) hq9).mp hP3
          replace hD3 := (congrArg (fun z9 => va_D _ z9) hq9).mp hD3
          clear hq9
          have hq9 : ([sO cy hh a kk dd b w ee qq ik] ++ (pS cy a (drwN S (minN (bstN (si 0)) (gcN S))) ++ ([ia cy (hh 1) 7 C] ++ (aS cy b (PR S) F1_42 N1_42 B1_42 O1_42 Sd1_42 Dv1_42 L1_42 (nI (RC S)) (b2i (RC S = 60)) (fresh S) (lost S) (b2i (smokes S = true)) ++ ([qsB cy qq, hO cy (qq 1) (qq 5) (bi 0) (si 0), hO cy (qq 2) (qq 6) (bi 1) (si 1), hO cy (qq 3) (qq 7) (bi 2) (si 2), hO cy (qq 4) (qq 8) (bi 3) (si 3), la cy (qq 5) 40 (stkF S (f 0) i), la cy (qq 6) 40 (f 1), la cy (qq 7) 40 (f 2), la cy (qq 8) 40 (f 3)]))))) = ([sO cy hh a kk dd b w ee qq ik] ++ (pS cy a (drwN S (minN (bstN (si 0)) (gcN S))) ++ ([ia cy (hh 1) 7 C] ++ (aS cy b (PR S) F1_42 N1_42 B1_42 O1_42 Sd1_42 Dv1_42 L1_42 (nI (RC S)) (b2i (RC S = 60)) (fresh S) (lost S) (b2i (smokes S = true)) ++ ([qsB cy qq, hO cy (qq 1) (qq 5) (bi 0) (si 0), hO cy (qq 2) (qq 6) (bi 1) (si 1), hO cy (qq 3) (qq 7) (bi 2) (si 2), hO cy (qq 4) (qq 8) (bi 3) (si 3), la cy (qq 5) 40 (stkF S (f 0) (minN (bstN (si 0)) (gcN S))), la cy (qq 6) 40 (f 1), la cy (qq 7) 40 (f 2), la cy (qq 8) 40 (f 3)]))))) := congrArg (fun z9 => [sO cy hh a kk dd b w ee qq ik] ++ (pS cy a (drwN S (minN (bstN (si 0)) (gcN S))) ++ ([ia cy (hh 1) 7 C] ++ (aS cy b (PR S) F1_42 N1_42 B1_42 O1_42 Sd1_42 Dv1_42 L1_42 (nI (RC S)) (b2i (RC S = 60)) (fresh S) (lost S) (b2i (smokes S = true)) ++ ([qsB cy qq, hO cy (qq 1) (qq 5) (bi 0) (si 0), hO cy (qq 2) (qq 6) (bi 1) (si 1), hO cy (qq 3) (qq 7) (bi 2) (si 2), hO cy (qq 4) (qq 8) (bi 3) (si 3), la cy (qq 5) 40 z9, la cy (qq 6) 40 (f 1), la cy (qq 7) 40 (f 2), la cy (qq 8) 40 (f 3)]))))) (show (stkF S (f 0) i) = (stkF S (f 0) (minN (bstN (si 0)) (gcN S))) from by rw [hie])
          replace hP3 := (congrArg (fun z9 => va_P D vwCl z9 _) hq9).mp hP3
          replace hD3 := (congrArg (fun z9 => va_D _ z9) hq9).mp hD3
          clear hq9
          replace hP3 : va_P D vwCl ([sO cy hh a kk dd b w ee qq ik] ++ (pS cy a (drwN S (minN (bstN (si 0)) (gcN S))) ++ ([ia cy (hh 1) 7 C] ++ (aS cy b (PR S) F1_42 N1_42 B1_42 O1_42 Sd1_42 Dv1_42 L1_42 (nI (RC S)) (b2i (RC S = 60)) (fresh S) (lost S) (b2i (smokes S = true)) ++ (shB cy qq bi si (va_up f 0 (stkF S (f 0) (minN (bstN (si 0)) (gcN S))))))))) H3 := hP3
          replace hD3 : va_D (va_A _ sz) ([sO cy hh a kk dd b w ee qq ik] ++ (pS cy a (drwN S (minN (bstN (si 0)) (gcN S))) ++ ([ia cy (hh 1) 7 C] ++ (aS cy b (PR S) F1_42 N1_42 B1_42 O1_42 Sd1_42 Dv1_42 L1_42 (nI (RC S)) (b2i (RC S = 60)) (fresh S) (lost S) (b2i (smokes S = true)) ++ (shB cy qq bi si (va_up f 0 (stkF S (f 0) (minN (bstN (si 0)) (gcN S))))))))) := hD3
          refine lv_iload_n hx hb dX6_sticks_88 rfl (lv_at hl4 1 rfl) ?_
          have hcd : cSh bi 0 = 7 := by unfold cSh; clear hx hb hml hown hr hlocks hw hsz hA hG hK hP3 hD3 hS3 hl4 ih_63; grind
          have hq9 : ([sO cy hh a kk dd b w ee qq ik] ++ (pS cy a (drwN S (minN (bstN (si 0)) (gcN S))) ++ ([ia cy (hh 1) 7 C] ++ (aS cy b (PR S) F1_42 N1_42 B1_42 O1_42 Sd1_42 Dv1_42 L1_42 (nI (RC S)) (b2i (RC S = 60)) (fresh S) (lost S) (b2i (smokes S = true)) ++ (shB cy qq bi si (va_up f 0 (stkF S (f 0) (minN (bstN (si 0)) (gcN S))))))))) = ([sO cy hh a kk dd b w ee qq ik] ++ (pS cy a (drwN S (minN (bstN (si 0)) (gcN S))) ++ ([ia cy (hh 1) 7 (fnd C (cSh bi 0))] ++ (aS cy b (PR S) F1_42 N1_42 B1_42 O1_42 Sd1_42 Dv1_42 L1_42 (nI (RC S)) (b2i (RC S = 60)) (fresh S) (lost S) (b2i (smokes S = true)) ++ (shB cy qq bi si (va_up f 0 (stkF S (f 0) (minN (bstN (si 0)) (gcN S))))))))) := congrArg (fun z9 => [sO cy hh a kk dd b w ee qq ik] ++ (pS cy a (drwN S (minN (bstN (si 0)) (gcN S))) ++ ([ia cy (hh 1) 7 z9] ++ (aS cy b (PR S) F1_42 N1_42 B1_42 O1_42 Sd1_42 Dv1_42 L1_42 (nI (RC S)) (b2i (RC S = 60)) (fresh S) (lost S) (b2i (smokes S = true)) ++ (shB cy qq bi si (va_up f 0 (stkF S (f 0) (minN (bstN (si 0)) (gcN S))))))))) (show C = (fnd C (cSh bi 0)) from fnd_o hcd)
          replace hP3 := (congrArg (fun z9 => va_P D vwCl z9 _) hq9).mp hP3
          replace hD3 := (congrArg (fun z9 => va_D _ z9) hq9).mp hD3
          clear hq9
          have hq9 : ([sO cy hh a kk dd b w ee qq ik] ++ (pS cy a (drwN S (minN (bstN (si 0)) (gcN S))) ++ ([ia cy (hh 1) 7 (fnd C (cSh bi 0))] ++ (aS cy b (PR S) F1_42 N1_42 B1_42 O1_42 Sd1_42 Dv1_42 L1_42 (nI (RC S)) (b2i (RC S = 60)) (fresh S) (lost S) (b2i (smokes S = true)) ++ (shB cy qq bi si (va_up f 0 (stkF S (f 0) (minN (bstN (si 0)) (gcN S))))))))) = ([sO cy hh a kk dd b w ee qq ik] ++ (pS cy a (if cSh bi 0 = 7 then drwN S (minN (bstN (si (bstN 0))) (gcN S)) else S) ++ ([ia cy (hh 1) 7 (fnd C (cSh bi 0))] ++ (aS cy b (PR S) F1_42 N1_42 B1_42 O1_42 Sd1_42 Dv1_42 L1_42 (nI (RC S)) (b2i (RC S = 60)) (fresh S) (lost S) (b2i (smokes S = true)) ++ (shB cy qq bi si (va_up f 0 (stkF S (f 0) (minN (bstN (si 0)) (gcN S))))))))) := congrArg (fun z9 => [sO cy hh a kk dd b w ee qq ik] ++ (pS cy a z9 ++ ([ia cy (hh 1) 7 (fnd C (cSh bi 0))] ++ (aS cy b (PR S) F1_42 N1_42 B1_42 O1_42 Sd1_42 Dv1_42 L1_42 (nI (RC S)) (b2i (RC S = 60)) (fresh S) (lost S) (b2i (smokes S = true)) ++ (shB cy qq bi si (va_up f 0 (stkF S (f 0) (minN (bstN (si 0)) (gcN S))))))))) (show (drwN S (minN (bstN (si 0)) (gcN S))) = (if cSh bi 0 = 7 then drwN S (minN (bstN (si (bstN 0))) (gcN S)) else S) from by rw [if_pos hcd]; simp only [hb0, hb1, hb2, hb3])
          replace hP3 := (congrArg (fun z9 => va_P D vwCl z9 _) hq9).mp hP3
          replace hD3 := (congrArg (fun z9 => va_D _ z9) hq9).mp hD3
          clear hq9
          have hq9 : ([sO cy hh a kk dd b w ee qq ik] ++ (pS cy a (if cSh bi 0 = 7 then drwN S (minN (bstN (si (bstN 0))) (gcN S)) else S) ++ ([ia cy (hh 1) 7 (fnd C (cSh bi 0))] ++ (aS cy b (PR S) F1_42 N1_42 B1_42 O1_42 Sd1_42 Dv1_42 L1_42 (nI (RC S)) (b2i (RC S = 60)) (fresh S) (lost S) (b2i (smokes S = true)) ++ (shB cy qq bi si (va_up f 0 (stkF S (f 0) (minN (bstN (si 0)) (gcN S))))))))) = ([sO cy hh a kk dd b w ee qq ik] ++ (pS cy a (if cSh bi 0 = 7 then drwN S (minN (bstN (si (bstN 0))) (gcN S)) else S) ++ ([ia cy (hh 1) 7 (fnd C (cSh bi 0))] ++ (aS cy b (PR S) F1_42 N1_42 B1_42 O1_42 Sd1_42 Dv1_42 L1_42 (nI (RC S)) (b2i (RC S = 60)) (fresh S) (lost S) (b2i (smokes S = true)) ++ (shB cy qq bi si (if cSh bi 0 = 7 then va_up f (bstN 0) (stkF S (f (bstN 0)) (minN (bstN (si (bstN 0))) (gcN S))) else f)))))) := congrArg (fun z9 => [sO cy hh a kk dd b w ee qq ik] ++ (pS cy a (if cSh bi 0 = 7 then drwN S (minN (bstN (si (bstN 0))) (gcN S)) else S) ++ ([ia cy (hh 1) 7 (fnd C (cSh bi 0))] ++ (aS cy b (PR S) F1_42 N1_42 B1_42 O1_42 Sd1_42 Dv1_42 L1_42 (nI (RC S)) (b2i (RC S = 60)) (fresh S) (lost S) (b2i (smokes S = true)) ++ (shB cy qq bi si z9))))) (show (va_up f 0 (stkF S (f 0) (minN (bstN (si 0)) (gcN S)))) = (if cSh bi 0 = 7 then va_up f (bstN 0) (stkF S (f (bstN 0)) (minN (bstN (si (bstN 0))) (gcN S))) else f) from by rw [if_pos hcd]; simp only [hb0, hb1, hb2, hb3])
          replace hP3 := (congrArg (fun z9 => va_P D vwCl z9 _) hq9).mp hP3
          replace hD3 := (congrArg (fun z9 => va_D _ z9) hq9).mp hD3
          clear hq9
          refine re_i (PR S, F1_42, N1_42, B1_42, O1_42, Sd1_42, Dv1_42, L1_42, nI (RC S), b2i (RC S = 60), fresh S, lost S, b2i (smokes S = true)) hx hb hr hlocks hP3 hD3 hS3 dX6_sticks_89 ?_
          exact (ans_o hcd (by simp only [hb0, hb1, hb2, hb3]))
        · refine lv_aload_n hx hb dX6_sticks_69 rfl (lv_at hl4 2 rfl) ?_
          refine lv_iload hx hb dX6_sticks_70 (lv_at hl4 0 rfl) ?_
          refine lv_aload_n hx hb dX6_sticks_72 rfl (lv_at hl4 3 rfl) ?_
          refine lv_iload hx hb dX6_sticks_73 (lv_at hl4 0 rfl) ?_
          refine cV_i (wc := [sO cy hh a kk dd b w ee qq ik] ++ (pS cy a (drwN S i) ++ (aS cy b (PR S) F1_42 N1_42 B1_42 O1_42 Sd1_42 Dv1_42 L1_42 (nI (RC S)) (b2i (RC S = 60)) (fresh S) (lost S) (b2i (smokes S = true))))) (wr := [ia cy (hh 1) 7 C, qsB cy qq, hO cy (qq 1) (qq 5) (bi 0) (si 0), hO cy (qq 2) (qq 6) (bi 1) (si 1), hO cy (qq 3) (qq 7) (bi 2) (si 2), hO cy (qq 4) (qq 8) (bi 3) (si 3), la cy (qq 5) 40 (stkF S (f 0) i), la cy (qq 6) 40 (f 1), la cy (qq 7) 40 (f 2), la cy (qq 8) 40 (f 3)]) (rest := [.int (nI i), .ref (qq 1)]) hx hb hml hown hw hG hK hP3 hD3 hS3 hA hl4 kc_X6_seenAt kw_3_119 [.int (nI i)] (c_X6_seenAt l D cy G H3.size hh a kk dd b w ee qq ik (drwN S i) (PR S) F1_42 N1_42 B1_42 O1_42 Sd1_42 Dv1_42 L1_42 (nI (RC S)) (b2i (RC S = 60)) (fresh S) (lost S) (b2i (smokes S = true)) i ((drwN_wf wf i).1) (by rw [(drwN_wf wf i).2.2]; omega)) [0, 1, 2, 3, 4, 5, 6, 7, 8, 9, 10, 12, 13, 14, 15, 16, 17, 18, 19, 20, 21, 22, 23, 24, 25, 26] [11, 27, 28, 29, 30, 31, 32, 33, 34, 35] rfl rfl rfl rfl rfl 0 rfl rfl rfl rfl rfl (Nat.le_of_ble_eq_true rfl) ⟨Nat.le_of_ble_eq_true rfl, Nat.le_of_ble_eq_true rfl⟩ dX6_sticks_75 ⟨Nat.le_of_ble_eq_true rfl, Nat.le_of_ble_eq_true rfl⟩ (fun r_75 u9 H4 locs4 hu9 hP4 hD4 hS4 => ?_)
          clear hP3 hD3 hS3 locs3 H3
          have hr_75 := hu9
          replace hP4 : va_P D vwCl ([ia cy (hh 1) 7 C, qsB cy qq, hO cy (qq 1) (qq 5) (bi 0) (si 0), hO cy (qq 2) (qq 6) (bi 1) (si 1), hO cy (qq 3) (qq 7) (bi 2) (si 2), hO cy (qq 4) (qq 8) (bi 3) (si 3), la cy (qq 5) 40 (stkF S (f 0) i), la cy (qq 6) 40 (f 1), la cy (qq 7) 40 (f 2), la cy (qq 8) 40 (f 3), sO cy hh a kk dd b w ee qq ik] ++ (pS cy a (drw (drwN S i)) ++ (aS cy b (PR S) F1_42 N1_42 B1_42 O1_42 Sd1_42 Dv1_42 L1_42 (nI (RC S)) (b2i (RC S = 60)) (fresh S) (lost S) (b2i (smokes S = true))))) H4 := hP4
          replace hD4 : va_D (va_A _ sz) ([ia cy (hh 1) 7 C, qsB cy qq, hO cy (qq 1) (qq 5) (bi 0) (si 0), hO cy (qq 2) (qq 6) (bi 1) (si 1), hO cy (qq 3) (qq 7) (bi 2) (si 2), hO cy (qq 4) (qq 8) (bi 3) (si 3), la cy (qq 5) 40 (stkF S (f 0) i), la cy (qq 6) 40 (f 1), la cy (qq 7) 40 (f 2), la cy (qq 8) 40 (f 3), sO cy hh a kk dd b w ee qq ik] ++ (pS cy a (drw (drwN S i)) ++ (aS cy b (PR S) F1_42 N1_42 B1_42 O1_42 Sd1_42 Dv1_42 L1_42 (nI (RC S)) (b2i (RC S = 60)) (fresh S) (lost S) (b2i (smokes S = true))))) := hD4
          replace hP4 := hP4.sub (ws' := [sO cy hh a kk dd b w ee qq ik] ++ (pS cy a (drw (drwN S i)) ++ ([ia cy (hh 1) 7 C] ++ (aS cy b (PR S) F1_42 N1_42 B1_42 O1_42 Sd1_42 Dv1_42 L1_42 (nI (RC S)) (b2i (RC S = 60)) (fresh S) (lost S) (b2i (smokes S = true)) ++ ([qsB cy qq, hO cy (qq 1) (qq 5) (bi 0) (si 0), hO cy (qq 2) (qq 6) (bi 1) (si 1), hO cy (qq 3) (qq 7) (bi 2) (si 2), hO cy (qq 4) (qq 8) (bi 3) (si 3), la cy (qq 5) 40 (stkF S (f 0) i), la cy (qq 6) 40 (f 1), la cy (qq 7) 40 (f 2), la cy (qq 8) 40 (f 3)]))))) [10, 11, 12, 13, 14, 15, 16, 17, 18, 19, 20, 0, 21, 22, 23, 24, 25, 26, 27, 28, 29, 30, 31, 32, 33, 34, 35, 1, 2, 3, 4, 5, 6, 7, 8, 9] rfl
          replace hD4 := hD4.sub (ws' := [sO cy hh a kk dd b w ee qq ik] ++ (pS cy a (drw (drwN S i)) ++ ([ia cy (hh 1) 7 C] ++ (aS cy b (PR S) F1_42 N1_42 B1_42 O1_42 Sd1_42 Dv1_42 L1_42 (nI (RC S)) (b2i (RC S = 60)) (fresh S) (lost S) (b2i (smokes S = true)) ++ ([qsB cy qq, hO cy (qq 1) (qq 5) (bi 0) (si 0), hO cy (qq 2) (qq 6) (bi 1) (si 1), hO cy (qq 3) (qq 7) (bi 2) (si 2), hO cy (qq 4) (qq 8) (bi 3) (si 3), la cy (qq 5) 40 (stkF S (f 0) i), la cy (qq 6) 40 (f 1), la cy (qq 7) 40 (f 2), la cy (qq 8) 40 (f 3)]))))) [10, 11, 12, 13, 14, 15, 16, 17, 18, 19, 20, 0, 21, 22, 23, 24, 25, 26, 27, 28, 29, 30, 31, 32, 33, 34, 35, 1, 2, 3, 4, 5, 6, 7, 8, 9] (by decide) rfl
          subst hr_75
          refine tp (show (seenV (drwN S i) (F1_42 i) i) = seenK S i from congrArg (fun z9 => seenV (drwN S i) z9 i) (hF_42 i (by omega))) ?_
          refine lv_i2l hx hb dX6_sticks_78 rfl ?_
          refine cV_v (wc := [hO cy (qq 1) (qq 5) (bi 0) (si 0), la cy (qq 5) 40 (stkF S (f 0) i)]) (wr := [sO cy hh a kk dd b w ee qq ik] ++ (pS cy a (drw (drwN S i)) ++ ([ia cy (hh 1) 7 C] ++ (aS cy b (PR S) F1_42 N1_42 B1_42 O1_42 Sd1_42 Dv1_42 L1_42 (nI (RC S)) (b2i (RC S = 60)) (fresh S) (lost S) (b2i (smokes S = true)) ++ ([qsB cy qq, hO cy (qq 2) (qq 6) (bi 1) (si 1), hO cy (qq 3) (qq 7) (bi 2) (si 2), hO cy (qq 4) (qq 8) (bi 3) (si 3), la cy (qq 6) 40 (f 1), la cy (qq 7) 40 (f 2), la cy (qq 8) 40 (f 3)]))))) (rest := []) hx hb hml hown hw hG hK hP4 hD4 hS4 hA hl4 kc_X2_put kw_3_132 [.int (nI i), .long ((seenK S i).toInt64)] (c_X2_put l D cy G H4.size (qq 1) (qq 5) (bi 0) (si 0) (stkF S (f 0) i) (bstN (si 0)) i ((seenK S i).toInt64) ((hso 0 (by decide)).1) (by omega) hq0) [28, 32] [0, 1, 2, 3, 4, 5, 6, 7, 8, 9, 10, 11, 12, 13, 14, 15, 16, 17, 18, 19, 20, 21, 22, 23, 24, 25, 26, 27, 29, 30, 31, 33, 34, 35] rfl rfl rfl rfl rfl 0 rfl rfl rfl rfl rfl (Nat.le_of_ble_eq_true rfl) ⟨Nat.le_of_ble_eq_true rfl, Nat.le_of_ble_eq_true rfl⟩ dX6_sticks_79 ⟨Nat.le_of_ble_eq_true rfl, Nat.le_of_ble_eq_true rfl⟩ (fun u9 H5 locs5 hu9 hP5 hD5 hS5 => ?_)
          clear hP4 hD4 hS4 locs4 H4
          replace hP5 : va_P D vwCl ([sO cy hh a kk dd b w ee qq ik] ++ (pS cy a (drw (drwN S i)) ++ ([ia cy (hh 1) 7 C] ++ (aS cy b (PR S) F1_42 N1_42 B1_42 O1_42 Sd1_42 Dv1_42 L1_42 (nI (RC S)) (b2i (RC S = 60)) (fresh S) (lost S) (b2i (smokes S = true)) ++ ([qsB cy qq, hO cy (qq 2) (qq 6) (bi 1) (si 1), hO cy (qq 3) (qq 7) (bi 2) (si 2), hO cy (qq 4) (qq 8) (bi 3) (si 3), la cy (qq 6) 40 (f 1), la cy (qq 7) 40 (f 2), la cy (qq 8) 40 (f 3), hO cy (qq 1) (qq 5) (bi 0) (si 0), la cy (qq 5) 40 (vp_updL (stkF S (f 0) i) i (nrw (bi 0) ((seenK S i).toInt64)))]))))) H5 := hP5
          replace hD5 : va_D (va_A _ sz) ([sO cy hh a kk dd b w ee qq ik] ++ (pS cy a (drw (drwN S i)) ++ ([ia cy (hh 1) 7 C] ++ (aS cy b (PR S) F1_42 N1_42 B1_42 O1_42 Sd1_42 Dv1_42 L1_42 (nI (RC S)) (b2i (RC S = 60)) (fresh S) (lost S) (b2i (smokes S = true)) ++ ([qsB cy qq, hO cy (qq 2) (qq 6) (bi 1) (si 1), hO cy (qq 3) (qq 7) (bi 2) (si 2), hO cy (qq 4) (qq 8) (bi 3) (si 3), la cy (qq 6) 40 (f 1), la cy (qq 7) 40 (f 2), la cy (qq 8) 40 (f 3), hO cy (qq 1) (qq 5) (bi 0) (si 0), la cy (qq 5) 40 (vp_updL (stkF S (f 0) i) i (nrw (bi 0) ((seenK S i).toInt64)))]))))) := hD5
          replace hP5 := hP5.sub (ws' := [sO cy hh a kk dd b w ee qq ik] ++ (pS cy a (drw (drwN S i)) ++ ([ia cy (hh 1) 7 C] ++ (aS cy b (PR S) F1_42 N1_42 B1_42 O1_42 Sd1_42 Dv1_42 L1_42 (nI (RC S)) (b2i (RC S = 60)) (fresh S) (lost S) (b2i (smokes S = true)) ++ ([qsB cy qq, hO cy (qq 1) (qq 5) (bi 0) (si 0), hO cy (qq 2) (qq 6) (bi 1) (si 1), hO cy (qq 3) (qq 7) (bi 2) (si 2), hO cy (qq 4) (qq 8) (bi 3) (si 3), la cy (qq 5) 40 (vp_updL (stkF S (f 0) i) i (nrw (bi 0) ((seenK S i).toInt64))), la cy (qq 6) 40 (f 1), la cy (qq 7) 40 (f 2), la cy (qq 8) 40 (f 3)]))))) [0, 1, 2, 3, 4, 5, 6, 7, 8, 9, 10, 11, 12, 13, 14, 15, 16, 17, 18, 19, 20, 21, 22, 23, 24, 25, 26, 27, 34, 28, 29, 30, 35, 31, 32, 33] rfl
          replace hD5 := hD5.sub (ws' := [sO cy hh a kk dd b w ee qq ik] ++ (pS cy a (drw (drwN S i)) ++ ([ia cy (hh 1) 7 C] ++ (aS cy b (PR S) F1_42 N1_42 B1_42 O1_42 Sd1_42 Dv1_42 L1_42 (nI (RC S)) (b2i (RC S = 60)) (fresh S) (lost S) (b2i (smokes S = true)) ++ ([qsB cy qq, hO cy (qq 1) (qq 5) (bi 0) (si 0), hO cy (qq 2) (qq 6) (bi 1) (si 1), hO cy (qq 3) (qq 7) (bi 2) (si 2), hO cy (qq 4) (qq 8) (bi 3) (si 3), la cy (qq 5) 40 (vp_updL (stkF S (f 0) i) i (nrw (bi 0) ((seenK S i).toInt64))), la cy (qq 6) 40 (f 1), la cy (qq 7) 40 (f 2), la cy (qq 8) 40 (f 3)]))))) [0, 1, 2, 3, 4, 5, 6, 7, 8, 9, 10, 11, 12, 13, 14, 15, 16, 17, 18, 19, 20, 21, 22, 23, 24, 25, 26, 27, 34, 28, 29, 30, 35, 31, 32, 33] (by decide) rfl
          have hq9 : ([sO cy hh a kk dd b w ee qq ik] ++ (pS cy a (drw (drwN S i)) ++ ([ia cy (hh 1) 7 C] ++ (aS cy b (PR S) F1_42 N1_42 B1_42 O1_42 Sd1_42 Dv1_42 L1_42 (nI (RC S)) (b2i (RC S = 60)) (fresh S) (lost S) (b2i (smokes S = true)) ++ ([qsB cy qq, hO cy (qq 1) (qq 5) (bi 0) (si 0), hO cy (qq 2) (qq 6) (bi 1) (si 1), hO cy (qq 3) (qq 7) (bi 2) (si 2), hO cy (qq 4) (qq 8) (bi 3) (si 3), la cy (qq 5) 40 (vp_updL (stkF S (f 0) i) i (nrw (bi 0) ((seenK S i).toInt64))), la cy (qq 6) 40 (f 1), la cy (qq 7) 40 (f 2), la cy (qq 8) 40 (f 3)]))))) = ([sO cy hh a kk dd b w ee qq ik] ++ (pS cy a (drwN S (i + 1)) ++ ([ia cy (hh 1) 7 C] ++ (aS cy b (PR S) F1_42 N1_42 B1_42 O1_42 Sd1_42 Dv1_42 L1_42 (nI (RC S)) (b2i (RC S = 60)) (fresh S) (lost S) (b2i (smokes S = true)) ++ ([qsB cy qq, hO cy (qq 1) (qq 5) (bi 0) (si 0), hO cy (qq 2) (qq 6) (bi 1) (si 1), hO cy (qq 3) (qq 7) (bi 2) (si 2), hO cy (qq 4) (qq 8) (bi 3) (si 3), la cy (qq 5) 40 (vp_updL (stkF S (f 0) i) i (nrw (bi 0) ((seenK S i).toInt64))), la cy (qq 6) 40 (f 1), la cy (qq 7) 40 (f 2), la cy (qq 8) 40 (f 3)]))))) := congrArg (fun z9 => [sO cy hh a kk dd b w ee qq ik] ++ (pS cy a z9 ++ ([ia cy (hh 1) 7 C] ++ (aS cy b (PR S) F1_42 N1_42 B1_42 O1_42 Sd1_42 Dv1_42 L1_42 (nI (RC S)) (b2i (RC S = 60)) (fresh S) (lost S) (b2i (smokes S = true)) ++ ([qsB cy qq, hO cy (qq 1) (qq 5) (bi 0) (si 0), hO cy (qq 2) (qq 6) (bi 1) (si 1), hO cy (qq 3) (qq 7) (bi 2) (si 2), hO cy (qq 4) (qq 8) (bi 3) (si 3), la cy (qq 5) 40 (vp_updL (stkF S (f 0) i) i (nrw (bi 0) ((seenK S i).toInt64))), la cy (qq 6) 40 (f 1), la cy (qq 7) 40 (f 2), la cy (qq 8) 40 (f 3)]))))) (show (drw (drwN S i)) = (drwN S (i + 1)) from rfl)
          replace hP5 := (congrArg (fun z9 => va_P D vwCl z9 _) hq9).mp hP5
          replace hD5 := (congrArg (fun z9 => va_D _ z9) hq9).mp hD5
          clear hq9
          have hq9 : ([sO cy hh a kk dd b w ee qq ik] ++ (pS cy a (drwN S (i + 1)) ++ ([ia cy (hh 1) 7 C] ++ (aS cy b (PR S) F1_42 N1_42 B1_42 O1_42 Sd1_42 Dv1_42 L1_42 (nI (RC S)) (b2i (RC S = 60)) (fresh S) (lost S) (b2i (smokes S = true)) ++ ([qsB cy qq, hO cy (qq 1) (qq 5) (bi 0) (si 0), hO cy (qq 2) (qq 6) (bi 1) (si 1), hO cy (qq 3) (qq 7) (bi 2) (si 2), hO cy (qq 4) (qq 8) (bi 3) (si 3), la cy (qq 5) 40 (vp_updL (stkF S (f 0) i) i (nrw (bi 0) ((seenK S i).toInt64))), la cy (qq 6) 40 (f 1), la cy (qq 7) 40 (f 2), la cy (qq 8) 40 (f 3)]))))) = ([sO cy hh a kk dd b w ee qq ik] ++ (pS cy a (drwN S (i + 1)) ++ ([ia cy (hh 1) 7 C] ++ (aS cy b (PR S) F1_42 N1_42 B1_42 O1_42 Sd1_42 Dv1_42 L1_42 (nI (RC S)) (b2i (RC S = 60)) (fresh S) (lost S) (b2i (smokes S = true)) ++ ([qsB cy qq, hO cy (qq 1) (qq 5) (bi 0) (si 0), hO cy (qq 2) (qq 6) (bi 1) (si 1), hO cy (qq 3) (qq 7) (bi 2) (si 2), hO cy (qq 4) (qq 8) (bi 3) (si 3), la cy (qq 5) 40 (stkF S (f 0) (i + 1)), la cy (qq 6) 40 (f 1), la cy (qq 7) 40 (f 2), la cy (qq 8) 40 (f 3)]))))) := congrArg (fun z9 => [sO cy hh a kk dd b w ee qq ik] ++ (pS cy a (drwN S (i + 1)) ++ ([ia cy (hh 1) 7 C] ++ (aS cy b (PR S) F1_42 N1_42 B1_42 O1_42 Sd1_42 Dv1_42 L1_42 (nI (RC S)) (b2i (RC S = 60)) (fresh S) (lost S) (b2i (smokes S = true)) ++ ([qsB cy qq, hO cy (qq 1) (qq 5) (bi 0) (si 0), hO cy (qq 2) (qq 6) (bi 1) (si 1), hO cy (qq 3) (qq 7) (bi 2) (si 2), hO cy (qq 4) (qq 8) (bi 3) (si 3), la cy (qq 5) 40 z9, la cy (qq 6) 40 (f 1), la cy (qq 7) 40 (f 2), la cy (qq 8) 40 (f 3)]))))) (show (vp_updL (stkF S (f 0) i) i (nrw (bi 0) ((seenK S i).toInt64))) = (stkF S (f 0) (i + 1)) from congrArg (vp_updL (stkF S (f 0) i) i) (nrw_small (seenV_rng _ _ _)))
          replace hP5 := (congrArg (fun z9 => va_P D vwCl z9 _) hq9).mp hP5
          replace hD5 := (congrArg (fun z9 => va_D _ z9) hq9).mp hD5
          clear hq9
          refine lv_iinc (v := nI (i + 1)) (lv' := [(4, .int (nI (i + 1))), (3, .int (nI (minN (bstN (si 0)) (gcN S)))), (2, .ref (qq 1)), (0, .ref (hh 0)), (1, .int 0)]) hx hb dX6_sticks_82 hl4 (k := 0) rfl (nI_inc _) (by decide) rfl (fun ls5 hl5 => ?_)
          clear hl4 ls4
          refine lv_goto (tgt := 63) hx hb dX6_sticks_85 (by decide) ?_
          exact ih_63 (i + 1) (by first | omega | assumption | rfl | simp_all) (by (try dsimp only); omega) H5 locs5 ls5 hP5 hD5 hS5 (lv_sub hl5 [0, 1, 2, 3, 4] rfl)
      · replace hP1 : va_P D vwCl ([sO cy hh a kk dd b w ee qq ik] ++ (pS cy a S ++ ([ia cy (hh 1) 7 C] ++ (aS cy b P F N B O Sd Dv L rc re fr lo sm ++ (shB cy qq bi si f))))) H1 := hP1
        replace hD1 : va_D (va_A _ sz) ([sO cy hh a kk dd b w ee qq ik] ++ (pS cy a S ++ ([ia cy (hh 1) 7 C] ++ (aS cy b P F N B O Sd Dv L rc re fr lo sm ++ (shB cy qq bi si f))))) := hD1
        refine lv_aload_n hx hb dX6_sticks_28 rfl (lv_at hl1 1 rfl) ?_
        refine lv_iconst (v := 5) hx hb dX6_sticks_29 (by decide) ?_
        refine cV_i (wc := [sO cy hh a kk dd b w ee qq ik, ia cy (hh 1) 7 C]) (wr := pS cy a S ++ (aS cy b P F N B O Sd Dv L rc re fr lo sm ++ (shB cy qq bi si f))) (rest := []) hx hb hml hown hw hG hK hP1 hD1 hS1 hA hl1 kc_X6_find kw_2_59 [.int 5] (c_X6_find l D cy G H1.size hh a kk dd b w ee qq ik C 5 (by first | omega | assumption)) [0, 11] [1, 2, 3, 4, 5, 6, 7, 8, 9, 10, 12, 13, 14, 15, 16, 17, 18, 19, 20, 21, 22, 23, 24, 25, 26, 27, 28, 29, 30, 31, 32, 33, 34, 35] rfl rfl rfl rfl rfl 0 rfl rfl rfl rfl rfl (Nat.le_of_ble_eq_true rfl) ⟨Nat.le_of_ble_eq_true rfl, Nat.le_of_ble_eq_true rfl⟩ dX6_sticks_30 ⟨Nat.le_of_ble_eq_true rfl, Nat.le_of_ble_eq_true rfl⟩ (fun r_30 u9 H2 locs2 hu9 hP2 hD2 hS2 => ?_)
        clear hP1 hD1 hS1 locs1 H1
        have hr_30 := hu9
        replace hP2 : va_P D vwCl (pS cy a S ++ (aS cy b P F N B O Sd Dv L rc re fr lo sm ++ (shB cy qq bi si f ++ ([sO cy hh a kk dd b w ee qq ik, ia cy (hh 1) 7 (upd C 5 (C 5 + 1))])))) H2 := hP2
        replace hD2 : va_D (va_A _ sz) (pS cy a S ++ (aS cy b P F N B O Sd Dv L rc re fr lo sm ++ (shB cy qq bi si f ++ ([sO cy hh a kk dd b w ee qq ik, ia cy (hh 1) 7 (upd C 5 (C 5 + 1))])))) := hD2
        replace hP2 := hP2.sub (ws' := [sO cy hh a kk dd b w ee qq ik] ++ (pS cy a S ++ ([ia cy (hh 1) 7 (upd C 5 (C 5 + 1))] ++ (aS cy b P F N B O Sd Dv L rc re fr lo sm ++ (shB cy qq bi si f))))) [34, 0, 1, 2, 3, 4, 5, 6, 7, 8, 9, 35, 10, 11, 12, 13, 14, 15, 16, 17, 18, 19, 20, 21, 22, 23, 24, 25, 26, 27, 28, 29, 30, 31, 32, 33] rfl
        replace hD2 := hD2.sub (ws' := [sO cy hh a kk dd b w ee qq ik] ++ (pS cy a S ++ ([ia cy (hh 1) 7 (upd C 5 (C 5 + 1))] ++ (aS cy b P F N B O Sd Dv L rc re fr lo sm ++ (shB cy qq bi si f))))) [34, 0, 1, 2, 3, 4, 5, 6, 7, 8, 9, 35, 10, 11, 12, 13, 14, 15, 16, 17, 18, 19, 20, 21, 22, 23, 24, 25, 26, 27, 28, 29, 30, 31, 32, 33] (by decide) rfl
        subst hr_30
        have hcd : cSh bi 0 = 5 := by unfold cSh; clear hx hb hml hown hr hlocks hw hsz hA hG hK hP2 hD2 hS2 hl1; grind
        have hq9 : ([sO cy hh a kk dd b w ee qq ik] ++ (pS cy a S ++ ([ia cy (hh 1) 7 (upd C 5 (C 5 + 1))] ++ (aS cy b P F N B O Sd Dv L rc re fr lo sm ++ (shB cy qq bi si f))))) = ([sO cy hh a kk dd b w ee qq ik] ++ (pS cy a S ++ ([ia cy (hh 1) 7 (fnd C (cSh bi 0))] ++ (aS cy b P F N B O Sd Dv L rc re fr lo sm ++ (shB cy qq bi si f))))) := congrArg (fun z9 => [sO cy hh a kk dd b w ee qq ik] ++ (pS cy a S ++ ([ia cy (hh 1) 7 z9] ++ (aS cy b P F N B O Sd Dv L rc re fr lo sm ++ (shB cy qq bi si f))))) (show (upd C 5 (C 5 + 1)) = (fnd C (cSh bi 0)) from fnd_f hcd (by decide))
        replace hP2 := (congrArg (fun z9 => va_P D vwCl z9 _) hq9).mp hP2
        replace hD2 := (congrArg (fun z9 => va_D _ z9) hq9).mp hD2
        clear hq9
        have hq9 : ([sO cy hh a kk dd b w ee qq ik] ++ (pS cy a S ++ ([ia cy (hh 1) 7 (fnd C (cSh bi 0))] ++ (aS cy b P F N B O Sd Dv L rc re fr lo sm ++ (shB cy qq bi si f))))) = ([sO cy hh a kk dd b w ee qq ik] ++ (pS cy a (if cSh bi 0 = 7 then drwN S (minN (bstN (si (bstN 0))) (gcN S)) else S) ++ ([ia cy (hh 1) 7 (fnd C (cSh bi 0))] ++ (aS cy b P F N B O Sd Dv L rc re fr lo sm ++ (shB cy qq bi si f))))) := congrArg (fun z9 => [sO cy hh a kk dd b w ee qq ik] ++ (pS cy a z9 ++ ([ia cy (hh 1) 7 (fnd C (cSh bi 0))] ++ (aS cy b P F N B O Sd Dv L rc re fr lo sm ++ (shB cy qq bi si f))))) (show S = (if cSh bi 0 = 7 then drwN S (minN (bstN (si (bstN 0))) (gcN S)) else S) from (if_neg (fun z9 => absurd (hcd.symm.trans z9) (by decide))).symm)
        replace hP2 := (congrArg (fun z9 => va_P D vwCl z9 _) hq9).mp hP2
        replace hD2 := (congrArg (fun z9 => va_D _ z9) hq9).mp hD2
        clear hq9
        have hq9 : ([sO cy hh a kk dd b w ee qq ik] ++ (pS cy a (if cSh bi 0 = 7 then drwN S (minN (bstN (si (bstN 0))) (gcN S)) else S) ++ ([ia cy (hh 1) 7 (fnd C (cSh bi 0))] ++ (aS cy b P F N B O Sd Dv L rc re fr lo sm ++ (shB cy qq bi si f))))) = ([sO cy hh a kk dd b w ee qq ik] ++ (pS cy a (if cSh bi 0 = 7 then drwN S (minN (bstN (si (bstN 0))) (gcN S)) else S) ++ ([ia cy (hh 1) 7 (fnd C (cSh bi 0))] ++ (aS cy b P F N B O Sd Dv L rc re fr lo sm ++ (shB cy qq bi si (if cSh bi 0 = 7 then va_up f (bstN 0) (stkF S (f (bstN 0)) (minN (bstN (si (bstN 0))) (gcN S))) else f)))))) := congrArg (fun z9 => [sO cy hh a kk dd b w ee qq ik] ++ (pS cy a (if cSh bi 0 = 7 then drwN S (minN (bstN (si (bstN 0))) (gcN S)) else S) ++ ([ia cy (hh 1) 7 (fnd C (cSh bi 0))] ++ (aS cy b P F N B O Sd Dv L rc re fr lo sm ++ (shB cy qq bi si z9))))) (show f = (if cSh bi 0 = 7 then va_up f (bstN 0) (stkF S (f (bstN 0)) (minN (bstN (si (bstN 0))) (gcN S))) else f) from (if_neg (fun z9 => absurd (hcd.symm.trans z9) (by decide))).symm)
        replace hP2 := (congrArg (fun z9 => va_P D vwCl z9 _) hq9).mp hP2
        replace hD2 := (congrArg (fun z9 => va_D _ z9) hq9).mp hD2
        clear hq9
        refine re_i (P, F, N, B, O, Sd, Dv, L, rc, re, fr, lo, sm) hx hb hr hlocks hP2 hD2 hS2 dX6_sticks_33 ?_
        exact (ans_f hcd (by decide) rfl)
    · replace hP1 : va_P D vwCl ([sO cy hh a kk dd b w ee qq ik] ++ (pS cy a S ++ ([ia cy (hh 1) 7 C] ++ (aS cy b P F N B O Sd Dv L rc re fr lo sm ++ ([qsB cy qq, hO cy (qq 1) (qq 5) (bi 0) (si 0), hO cy (qq 2) (qq 6) (bi 1) (si 1), hO cy (qq 3) (qq 7) (bi 2) (si 2), hO cy (qq 4) (qq 8) (bi 3) (si 3), la cy (qq 5) 40 (f 0), la cy (qq 6) 40 (f 1), la cy (qq 7) 40 (f 2), la cy (qq 8) 40 (f 3)]))))) H1 := hP1
      replace hD1 : va_D (va_A _ sz) ([sO cy hh a kk dd b w ee qq ik] ++ (pS cy a S ++ ([ia cy (hh 1) 7 C] ++ (aS cy b P F N B O Sd Dv L rc re fr lo sm ++ ([qsB cy qq, hO cy (qq 1) (qq 5) (bi 0) (si 0), hO cy (qq 2) (qq 6) (bi 1) (si 1), hO cy (qq 3) (qq 7) (bi 2) (si 2), hO cy (qq 4) (qq 8) (bi 3) (si 3), la cy (qq 5) 40 (f 0), la cy (qq 6) 40 (f 1), la cy (qq 7) 40 (f 2), la cy (qq 8) 40 (f 3)]))))) := hD1
      refine lv_aload_n hx hb dX6_sticks_14 rfl (lv_at hl0 0 rfl) ?_
      refine va_get (D := D) (ci := 6) (v := .ref (qq 0)) (C := RX6) (T := TX6) (N := 9) hx hb hw iX6 hown hK hP1 0 rfl rfl 7 (by decide) (hw _ kw_2_34) (fun _ h9 => h9) rfl dX6_sticks_15 ?_
      refine lv_iload_n hx hb dX6_sticks_18 rfl (lv_at hl0 1 rfl) ?_
      refine ald_q hx hb hK hP1 27 3 rfl rfl rfl 1 rfl (by first | omega | assumption) (by decide) (rfl) dX6_sticks_19 ?_
      refine lv_astore_n (lv' := [(2, .ref (qq 2)), (0, .ref (hh 0)), (1, .int 1)]) hx hb dX6_sticks_20 rfl hl0 (by decide) rfl (fun ls1 hl1 => ?_)
      clear hl0 ls0
      refine lv_aload_n hx hb dX6_sticks_21 rfl (lv_at hl1 0 rfl) ?_
      refine va_get (D := D) (ci := 2) (v := .int (bi 1)) (C := RX2) (T := TX2) (N := 3) hx hb hw iX2 hown hK hP1 29 rfl rfl 1 (by decide) (hw _ kw_2_16) (fun _ h9 => h9) rfl dX6_sticks_22 ?_
      refine lv_if_ne (tgt := 34) hx hb dX6_sticks_25 (by decide) (fun c_25 => ?_) (fun c_25 => ?_)
      · refine lv_aload_n hx hb dX6_sticks_34 rfl (lv_at hl1 1 rfl) ?_
        refine va_get (D := D) (ci := 6) (v := .ref (b 0)) (C := RX6) (T := TX6) (N := 9) hx hb hw iX6 hown hK hP1 0 rfl rfl 4 (by decide) (hw _ kw_2_31) (fun _ h9 => h9) rfl dX6_sticks_35 ?_
        refine lv_aload_n hx hb dX6_sticks_38 rfl (lv_at hl1 1 rfl) ?_
        refine va_get (D := D) (ci := 6) (v := .ref (a 0)) (C := RX6) (T := TX6) (N := 9) hx hb hw iX6 hown hK hP1 0 rfl rfl 0 (by decide) (hw _ kw_2_27) (fun _ h9 => h9) rfl dX6_sticks_39 ?_
        refine cV_v (wc := aS cy b P F N B O Sd Dv L rc re fr lo sm ++ (pS cy a S)) (wr := [sO cy hh a kk dd b w ee qq ik, ia cy (hh 1) 7 C, qsB cy qq, hO cy (qq 1) (qq 5) (bi 0) (si 0), hO cy (qq 2) (qq 6) (bi 1) (si 1), hO cy (qq 3) (qq 7) (bi 2) (si 2), hO cy (qq 4) (qq 8) (bi 3) (si 3), la cy (qq 5) 40 (f 0), la cy (qq 6) 40 (f 1), la cy (qq 7) 40 (f 2), la cy (qq 8) 40 (f 3)]) (rest := []) hx hb hml hown hw hG hK hP1 hD1 hS1 hA hl1 kc_X0_settle kw_3_52 [.ref (a 0)] (c_X0_settle l D cy G H1.size b P F N B O Sd Dv L rc re fr lo sm a S (by first | omega | assumption)) [12, 13, 14, 15, 16, 17, 18, 19, 20, 21, 22, 23, 24, 25, 26, 1, 2, 3, 4, 5, 6, 7, 8, 9, 10] [0, 11, 27, 28, 29, 30, 31, 32, 33, 34, 35] rfl rfl rfl rfl rfl 0 rfl rfl rfl rfl rfl (Nat.le_of_ble_eq_true rfl) ⟨Nat.le_of_ble_eq_true rfl, Nat.le_of_ble_eq_true rfl⟩ dX6_sticks_42 ⟨Nat.le_of_ble_eq_true rfl, Nat.le_of_ble_eq_true rfl⟩ (fun u9 H2 locs2 hu9 hP2 hD2 hS2 => ?_)
        clear hP1 hD1 hS1 locs1 H1
        obtain ⟨F1_42, N1_42, B1_42, O1_42, Sd1_42, Dv1_42, L1_42⟩ := u9
        have hF_42 := hu9
        replace hF_42 : ∀ g, g < gcN S → F1_42 g = flow S (PR S) g := hF_42
        replace hP2 : va_P D vwCl ([sO cy hh a kk dd b w ee qq ik, ia cy (hh 1) 7 C, qsB cy qq, hO cy (qq 1) (qq 5) (bi 0) (si 0), hO cy (qq 2) (qq 6) (bi 1) (si 1), hO cy (qq 3) (qq 7) (bi 2) (si 2), hO cy (qq 4) (qq 8) (bi 3) (si 3), la cy (qq 5) 40 (f 0), la cy (qq 6) 40 (f 1), la cy (qq 7) 40 (f 2), la cy (qq 8) 40 (f 3)] ++ (aS cy b (PR S) F1_42 N1_42 B1_42 O1_42 Sd1_42 Dv1_42 L1_42 (nI (RC S)) (b2i (RC S = 60)) (fresh S) (lost S) (b2i (smokes S = true)) ++ (pS cy a S))) H2 := hP2
        replace hD2 : va_D (va_A _ sz) ([sO cy hh a kk dd b w ee qq ik, ia cy (hh 1) 7 C, qsB cy qq, hO cy (qq 1) (qq 5) (bi 0) (si 0), hO cy (qq 2) (qq 6) (bi 1) (si 1), hO cy (qq 3) (qq 7) (bi 2) (si 2), hO cy (qq 4) (qq 8) (bi 3) (si 3), la cy (qq 5) 40 (f 0), la cy (qq 6) 40 (f 1), la cy (qq 7) 40 (f 2), la cy (qq 8) 40 (f 3)] ++ (aS cy b (PR S) F1_42 N1_42 B1_42 O1_42 Sd1_42 Dv1_42 L1_42 (nI (RC S)) (b2i (RC S = 60)) (fresh S) (lost S) (b2i (smokes S = true)) ++ (pS cy a S))) := hD2
        replace hP2 := hP2.sub (ws' := [sO cy hh a kk dd b w ee qq ik] ++ (pS cy a S ++ ([ia cy (hh 1) 7 C] ++ (aS cy b (PR S) F1_42 N1_42 B1_42 O1_42 Sd1_42 Dv1_42 L1_42 (nI (RC S)) (b2i (RC S = 60)) (fresh S) (lost S) (b2i (smokes S = true)) ++ ([qsB cy qq, hO cy (qq 1) (qq 5) (bi 0) (si 0), hO cy (qq 2) (qq 6) (bi 1) (si 1), hO cy (qq 3) (qq 7) (bi 2) (si 2), hO cy (qq 4) (qq 8) (bi 3) (si 3), la cy (qq 5) 40 (f 0), la cy (qq 6) 40 (f 1), la cy (qq 7) 40 (f 2), la cy (qq 8) 40 (f 3)]))))) [0, 26, 27, 28, 29, 30, 31, 32, 33, 34, 35, 1, 11, 12, 13, 14, 15, 16, 17, 18, 19, 20, 21, 22, 23, 24, 25, 2, 3, 4, 5, 6, 7, 8, 9, 10] rfl
        replace hD2 := hD2.sub (ws' := [sO cy hh a kk dd b w ee qq ik] ++ (pS cy a S ++ ([ia cy (hh 1) 7 C] ++ (aS cy b (PR S) F1_42 N1_42 B1_42 O1_42 Sd1_42 Dv1_42 L1_42 (nI (RC S)) (b2i (RC S = 60)) (fresh S) (lost S) (b2i (smokes S = true)) ++ ([qsB cy qq, hO cy (qq 1) (qq 5) (bi 0) (si 0), hO cy (qq 2) (qq 6) (bi 1) (si 1), hO cy (qq 3) (qq 7) (bi 2) (si 2), hO cy (qq 4) (qq 8) (bi 3) (si 3), la cy (qq 5) 40 (f 0), la cy (qq 6) 40 (f 1), la cy (qq 7) 40 (f 2), la cy (qq 8) 40 (f 3)]))))) [0, 26, 27, 28, 29, 30, 31, 32, 33, 34, 35, 1, 11, 12, 13, 14, 15, 16, 17, 18, 19, 20, 21, 22, 23, 24, 25, 2, 3, 4, 5, 6, 7, 8, 9, 10] (by decide) rfl
        refine lv_aload_n hx hb dX6_sticks_45 rfl (lv_at hl1 1 rfl) ?_
        refine va_get (D := D) (ci := 6) (v := .ref (a 0)) (C := RX6) (T := TX6) (N := 9) hx hb hw iX6 hown hK hP2 0 rfl rfl 0 (by decide) (hw _ kw_2_27) (fun _ h9 => h9) rfl dX6_sticks_46 ?_
        refine va_get (D := D) (ci := 1) (v := .int (S 1)) (C := RX1) (T := TX1) (N := 12) hx hb hw iX1 hown hK hP2 1 rfl rfl 1 (by decide) (hw _ kw_1_35) (fun _ h9 => h9) rfl dX6_sticks_49 ?_
        refine tp (show (S 1) = nI (gcN S) from wf_g wf) ?_
        refine lv_aload_n hx hb dX6_sticks_52 rfl (lv_at hl1 0 rfl) ?_
        refine va_get (D := D) (ci := 2) (v := .int (si 1)) (C := RX2) (T := TX2) (N := 3) hx hb hw iX2 hown hK hP2 29 rfl rfl 2 (by decide) (hw _ kw_2_18) (fun _ h9 => h9) rfl dX6_sticks_53 ?_
        refine tp (show (si 1) = nI (bstN (si 1)) from (hso 1 (by decide)).1) ?_
        refine va_mmin hx hb (by rw [hml]; exact hl1.1.symm) hown (hw _ kw_3_98) (hw _ kw_2_179) (hw _ kw_1_10) (hw _ kwm_min) (Nat.le_of_ble_eq_true rfl) (Nat.le_of_ble_eq_true rfl) (Nat.le_of_ble_eq_true rfl) (Nat.le_of_ble_eq_true rfl) dX6_sticks_56 ?_
        refine tp (show (if (nI (bstN (si 1))) < (nI (gcN S)) then (nI (bstN (si 1))) else (nI (gcN S))) = nI (minN (bstN (si 1)) (gcN S)) from min_nI (by omega) (by omega)) ?_
        refine lv_istore_n (lv' := [(3, .int (nI (minN (bstN (si 1)) (gcN S)))), (2, .ref (qq 2)), (0, .ref (hh 0)), (1, .int 1)]) hx hb dX6_sticks_59 rfl hl1 (by decide) rfl (fun ls2 hl2 => ?_)
        clear hl1 ls1
        have hmn := minN_l (bstN (si 1)) (gcN S)
        refine lv_iconst (v := 0) hx hb dX6_sticks_60 (by decide) ?_
        refine lv_istore (lv' := [(4, .int 0), (3, .int (nI (minN (bstN (si 1)) (gcN S)))), (2, .ref (qq 2)), (0, .ref (hh 0)), (1, .int 1)]) hx hb dX6_sticks_61 hl2 (by decide) rfl (fun ls3 hl3 => ?_)
        clear hl2 ls2
        have hq9 : ([sO cy hh a kk dd b w ee qq ik] ++ (pS cy a S ++ ([ia cy (hh 1) 7 C] ++ (aS cy b (PR S) F1_42 N1_42 B1_42 O1_42 Sd1_42 Dv1_42 L1_42 (nI (RC S)) (b2i (RC S = 60)) (fresh S) (lost S) (b2i (smokes S = true)) ++ ([qsB cy qq, hO cy (qq 1) (qq 5) (bi 0) (si 0), hO cy (qq 2) (qq 6) (bi 1) (si 1), hO cy (qq 3) (qq 7) (bi 2) (si 2), hO cy (qq 4) (qq 8) (bi 3) (si 3), la cy (qq 5) 40 (f 0), la cy (qq 6) 40 (f 1), la cy (qq 7) 40 (f 2), la cy (qq 8) 40 (f 3)]))))) = ([sO cy hh a kk dd b w ee qq ik] ++ (pS cy a (drwN S 0) ++ ([ia cy (hh 1) 7 C] ++ (aS cy b (PR S) F1_42 N1_42 B1_42 O1_42 Sd1_42 Dv1_42 L1_42 (nI (RC S)) (b2i (RC S = 60)) (fresh S) (lost S) (b2i (smokes S = true)) ++ ([qsB cy qq, hO cy (qq 1) (qq 5) (bi 0) (si 0), hO cy (qq 2) (qq 6) (bi 1) (si 1), hO cy (qq 3) (qq 7) (bi 2) (si 2), hO cy (qq 4) (qq 8) (bi 3) (si 3), la cy (qq 5) 40 (f 0), la cy (qq 6) 40 (f 1), la cy (qq 7) 40 (f 2), la cy (qq 8) 40 (f 3)]))))) := congrArg (fun z9 => [sO cy hh a kk dd b w ee qq ik] ++ (pS cy a z9 ++ ([ia cy (hh 1) 7 C] ++ (aS cy b (PR S) F1_42 N1_42 B1_42 O1_42 Sd1_42 Dv1_42 L1_42 (nI (RC S)) (b2i (RC S = 60)) (fresh S) (lost S) (b2i (smokes S = true)) ++ ([qsB cy qq, hO cy (qq 1) (qq 5) (bi 0) (si 0), hO cy (qq 2) (qq 6) (bi 1) (si 1), hO cy (qq 3) (qq 7) (bi 2) (si 2), hO cy (qq 4) (qq 8) (bi 3) (si 3), la cy (qq 5) 40 (f 0), la cy (qq 6) 40 (f 1), la cy (qq 7) 40 (f 2), la cy (qq 8) 40 (f 3)]))))) (show S = (drwN S 0) from rfl)
        replace hP2 := (congrArg (fun z9 => va_P D vwCl z9 _) hq9).mp hP2
        replace hD2 := (congrArg (fun z9 => va_D _ z9) hq9).mp hD2
        clear hq9
        have hq9 : ([sO cy hh a kk dd b w ee qq ik] ++ (pS cy a (drwN S 0) ++ ([ia cy (hh 1) 7 C] ++ (aS cy b (PR S) F1_42 N1_42 B1_42 O1_42 Sd1_42 Dv1_42 L1_42 (nI (RC S)) (b2i (RC S = 60)) (fresh S) (lost S) (b2i (smokes S = true)) ++ ([qsB cy qq, hO cy (qq 1) (qq 5) (bi 0) (si 0), hO cy (qq 2) (qq 6) (bi 1) (si 1), hO cy (qq 3) (qq 7) (bi 2) (si 2), hO cy (qq 4) (qq 8) (bi 3) (si 3), la cy (qq 5) 40 (f 0), la cy (qq 6) 40 (f 1), la cy (qq 7) 40 (f 2), la cy (qq 8) 40 (f 3)]))))) = ([sO cy hh a kk dd b w ee qq ik] ++ (pS cy a (drwN S 0) ++ ([ia cy (hh 1) 7 C] ++ (aS cy b (PR S) F1_42 N1_42 B1_42 O1_42 Sd1_42 Dv1_42 L1_42 (nI (RC S)) (b2i (RC S = 60)) (fresh S) (lost S) (b2i (smokes S = true)) ++ ([qsB cy qq, hO cy (qq 1) (qq 5) (bi 0) (si 0), hO cy (qq 2) (qq 6) (bi 1) (si 1), hO cy (qq 3) (qq 7) (bi 2) (si 2), hO cy (qq 4) (qq 8) (bi 3) (si 3), la cy (qq 5) 40 (f 0), la cy (qq 6) 40 (stkF S (f 1) 0), la cy (qq 7) 40 (f 2), la cy (qq 8) 40 (f 3)]))))) := congrArg (fun z9 => [sO cy hh a kk dd b w ee qq ik] ++ (pS cy a (drwN S 0) ++ ([ia cy (hh 1) 7 C] ++ (aS cy b (PR S) F1_42 N1_42 B1_42 O1_42 Sd1_42 Dv1_42 L1_42 (nI (RC S)) (b2i (RC S = 60)) (fresh S) (lost S) (b2i (smokes S = true)) ++ ([qsB cy qq, hO cy (qq 1) (qq 5) (bi 0) (si 0), hO cy (qq 2) (qq 6) (bi 1) (si 1), hO cy (qq 3) (qq 7) (bi 2) (si 2), hO cy (qq 4) (qq 8) (bi 3) (si 3), la cy (qq 5) 40 (f 0), la cy (qq 6) 40 z9, la cy (qq 7) 40 (f 2), la cy (qq 8) 40 (f 3)]))))) (show (f 1) = (stkF S (f 1) 0) from rfl)
        replace hP2 := (congrArg (fun z9 => va_P D vwCl z9 _) hq9).mp hP2
        replace hD2 := (congrArg (fun z9 => va_D _ z9) hq9).mp hD2
        clear hq9
        refine wlp (ι := Nat) (nL := 5) (fun x9 => (x9 ≤ minN (bstN (si 1)) (gcN S))) (fun x9 => [sO cy hh a kk dd b w ee qq ik] ++ (pS cy a (drwN S x9) ++ ([ia cy (hh 1) 7 C] ++ (aS cy b (PR S) F1_42 N1_42 B1_42 O1_42 Sd1_42 Dv1_42 L1_42 (nI (RC S)) (b2i (RC S = 60)) (fresh S) (lost S) (b2i (smokes S = true)) ++ ([qsB cy qq, hO cy (qq 1) (qq 5) (bi 0) (si 0), hO cy (qq 2) (qq 6) (bi 1) (si 1), hO cy (qq 3) (qq 7) (bi 2) (si 2), hO cy (qq 4) (qq 8) (bi 3) (si 3), la cy (qq 5) 40 (f 0), la cy (qq 6) 40 (stkF S (f 1) x9), la cy (qq 7) 40 (f 2), la cy (qq 8) 40 (f 3)]))))) (fun x9 => [(4, .int (nI x9)), (3, .int (nI (minN (bstN (si 1)) (gcN S)))), (2, .ref (qq 2)), (0, .ref (hh 0)), (1, .int 1)]) (fun x9 => []) (fun x9 => minN (bstN (si 1)) (gcN S) - x9) 63 ?_ 0 (by first | omega | assumption | rfl | simp_all) rfl hP2 hD2 hS2 (lv_sub hl3 [0, 1, 2, 3, 4] rfl)
        clear hP2 hD2 hS2 locs2 H2 hl3 ls3
        intro x9 hI ih_63 H3 locs3 ls4 hP3 hD3 hS3 hl4
        obtain ⟨i, rfl⟩ : ∃ z9, z9 = x9 := ⟨_, rfl⟩
        have hi := hI
        replace hi : i ≤ minN (bstN (si 1)) (gcN S) := hi
        replace hP3 : va_P D vwCl ([sO cy hh a kk dd b w ee qq ik] ++ (pS cy a (drwN S i) ++ ([ia cy (hh 1) 7 C] ++ (aS cy b (PR S) F1_42 N1_42 B1_42 O1_42 Sd1_42 Dv1_42 L1_42 (nI (RC S)) (b2i (RC S = 60)) (fresh S) (lost S) (b2i (smokes S = true)) ++ ([qsB cy qq, hO cy (qq 1) (qq 5) (bi 0) (si 0), hO cy (qq 2) (qq 6) (bi 1) (si 1), hO cy (qq 3) (qq 7) (bi 2) (si 2), hO cy (qq 4) (qq 8) (bi 3) (si 3), la cy (qq 5) 40 (f 0), la cy (qq 6) 40 (stkF S (f 1) i), la cy (qq 7) 40 (f 2), la cy (qq 8) 40 (f 3)]))))) H3 := hP3
        replace hD3 : va_D (va_A _ sz) ([sO cy hh a kk dd b w ee qq ik] ++ (pS cy a (drwN S i) ++ ([ia cy (hh 1) 7 C] ++ (aS cy b (PR S) F1_42 N1_42 B1_42 O1_42 Sd1_42 Dv1_42 L1_42 (nI (RC S)) (b2i (RC S = 60)) (fresh S) (lost S) (b2i (smokes S = true)) ++ ([qsB cy qq, hO cy (qq 1) (qq 5) (bi 0) (si 0), hO cy (qq 2) (qq 6) (bi 1) (si 1), hO cy (qq 3) (qq 7) (bi 2) (si 2), hO cy (qq 4) (qq 8) (bi 3) (si 3), la cy (qq 5) 40 (f 0), la cy (qq 6) 40 (stkF S (f 1) i), la cy (qq 7) 40 (f 2), la cy (qq 8) 40 (f 3)]))))) := hD3
        replace hl4 : lv_has ls4 5 [(4, .int (nI i)), (3, .int (nI (minN (bstN (si 1)) (gcN S)))), (2, .ref (qq 2)), (0, .ref (hh 0)), (1, .int 1)] := hl4
        show W p l e _ s m _ below meth c _ _ _ _ _ (F0 m 63 ls4 [])
        refine lv_iload hx hb dX6_sticks_63 (lv_at hl4 0 rfl) ?_
        refine lv_iload_n hx hb dX6_sticks_65 rfl (lv_at hl4 1 rfl) ?_
        refine ln_ge (tgt := 88) i (minN (bstN (si 1)) (gcN S)) rfl rfl (by omega) (by omega) hx hb dX6_sticks_66 (by decide) (fun c_66 => ?_) (fun c_66 => ?_)
        · have hie : i = minN (bstN (si 1)) (gcN S) := (by omega)
          have hq9 : ([sO cy hh a kk dd b w ee qq ik] ++ (pS cy a (drwN S i) ++ ([ia cy (hh 1) 7 C] ++ (aS cy b (PR S) F1_42 N1_42 B1_42 O1_42 Sd1_42 Dv1_42 L1_42 (nI (RC S)) (b2i (RC S = 60)) (fresh S) (lost S) (b2i (smokes S = true)) ++ ([qsB cy qq, hO cy (qq 1) (qq 5) (bi 0) (si 0), hO cy (qq 2) (qq 6) (bi 1) (si 1), hO cy (qq 3) (qq 7) (bi 2) (si 2), hO cy (qq 4) (qq 8) (bi 3) (si 3), la cy (qq 5) 40 (f 0), la cy (qq 6) 40 (stkF S (f 1) i), la cy (qq 7) 40 (f 2), la cy (qq 8) 40 (f 3)]))))) = ([sO cy hh a kk dd b w ee qq ik] ++ (pS cy a (drwN S (minN (bstN (si 1)) (gcN S))) ++ ([ia cy (hh 1) 7 C] ++ (aS cy b (PR S) F1_42 N1_42 B1_42 O1_42 Sd1_42 Dv1_42 L1_42 (nI (RC S)) (b2i (RC S = 60)) (fresh S) (lost S) (b2i (smokes S = true)) ++ ([qsB cy qq, hO cy (qq 1) (qq 5) (bi 0) (si 0), hO cy (qq 2) (qq 6) (bi 1) (si 1), hO cy (qq 3) (qq 7) (bi 2) (si 2), hO cy (qq 4) (qq 8) (bi 3) (si 3), la cy (qq 5) 40 (f 0), la cy (qq 6) 40 (stkF S (f 1) i), la cy (qq 7) 40 (f 2), la cy (qq 8) 40 (f 3)]))))) := congrArg (fun z9 => [sO cy hh a kk dd b w ee qq ik] ++ (pS cy a z9 ++ ([ia cy (hh 1) 7 C] ++ (aS cy b (PR S) F1_42 N1_42 B1_42 O1_42 Sd1_42 Dv1_42 L1_42 (nI (RC S)) (b2i (RC S = 60)) (fresh S) (lost S) (b2i (smokes S = true)) ++ ([qsB cy qq, hO cy (qq 1) (qq 5) (bi 0) (si 0), hO cy (qq 2) (qq 6) (bi 1) (si 1), hO cy (qq 3) (qq 7) (bi 2) (si 2), hO cy (qq 4) (qq 8) (bi 3) (si 3), la cy (qq 5) 40 (f 0), la cy (qq 6) 40 (stkF S (f 1) i), la cy (qq 7) 40 (f 2), la cy (qq 8) 40 (f 3)]))))) (show (drwN S i) = (drwN S (minN (bstN (si 1)) (gcN S))) from by rw [hie])
          replace hP3 := (congrArg (fun z9 => va_P D vwCl z9 _) hq9).mp hP3
          replace hD3 := (congrArg (fun z9 => va_D _ z9) hq9).mp hD3
          clear hq9
          have hq9 : ([sO cy hh a kk dd b w ee qq ik] ++ (pS cy a (drwN S (minN (bstN (si 1)) (gcN S))) ++ ([ia cy (hh 1) 7 C] ++ (aS cy b (PR S) F1_42 N1_42 B1_42 O1_42 Sd1_42 Dv1_42 L1_42 (nI (RC S)) (b2i (RC S = 60)) (fresh S) (lost S) (b2i (smokes S = true)) ++ ([qsB cy qq, hO cy (qq 1) (qq 5) (bi 0) (si 0), hO cy (qq 2) (qq 6) (bi 1) (si 1), hO cy (qq 3) (qq 7) (bi 2) (si 2), hO cy (qq 4) (qq 8) (bi 3) (si 3), la cy (qq 5) 40 (f 0), la cy (qq 6) 40 (stkF S (f 1) i), la cy (qq 7) 40 (f 2), la cy (qq 8) 40 (f 3)]))))) = ([sO cy hh a kk dd b w ee qq ik] ++ (pS cy a (drwN S (minN (bstN (si 1)) (gcN S))) ++ ([ia cy (hh 1) 7 C] ++ (aS cy b (PR S) F1_42 N1_42 B1_42 O1_42 Sd1_42 Dv1_42 L1_42 (nI (RC S)) (b2i (RC S = 60)) (fresh S) (lost S) (b2i (smokes S = true)) ++ ([qsB cy qq, hO cy (qq 1) (qq 5) (bi 0) (si 0), hO cy (qq 2) (qq 6) (bi 1) (si 1), hO cy (qq 3) (qq 7) (bi 2) (si 2), hO cy (qq 4) (qq 8) (bi 3) (si 3), la cy (qq 5) 40 (f 0), la cy (qq 6) 40 (stkF S (f 1) (minN (bstN (si 1)) (gcN S))), la cy (qq 7) 40 (f 2), la cy (qq 8) 40 (f 3)]))))) := congrArg (fun z9 => [sO cy hh a kk dd b w ee qq ik] ++ (pS cy a (drwN S (minN (bstN (si 1)) (gcN S))) ++ ([ia cy (hh 1) 7 C] ++ (aS cy b (PR S) F1_42 N1_42 B1_42 O1_42 Sd1_42 Dv1_42 L1_42 (nI (RC S)) (b2i (RC S = 60)) (fresh S) (lost S) (b2i (smokes S = true)) ++ ([qsB cy qq, hO cy (qq 1) (qq 5) (bi 0) (si 0), hO cy (qq 2) (qq 6) (bi 1) (si 1), hO cy (qq 3) (qq 7) (bi 2) (si 2), hO cy (qq 4) (qq 8) (bi 3) (si 3), la cy (qq 5) 40 (f 0), la cy (qq 6) 40 z9, la cy (qq 7) 40 (f 2), la cy (qq 8) 40 (f 3)]))))) (show (stkF S (f 1) i) = (stkF S (f 1) (minN (bstN (si 1)) (gcN S))) from by rw [hie])
          replace hP3 := (congrArg (fun z9 => va_P D vwCl z9 _) hq9).mp hP3
          replace hD3 := (congrArg (fun z9 => va_D _ z9) hq9).mp hD3
          clear hq9
          replace hP3 : va_P D vwCl ([sO cy hh a kk dd b w ee qq ik] ++ (pS cy a (drwN S (minN (bstN (si 1)) (gcN S))) ++ ([ia cy (hh 1) 7 C] ++ (aS cy b (PR S) F1_42 N1_42 B1_42 O1_42 Sd1_42 Dv1_42 L1_42 (nI (RC S)) (b2i (RC S = 60)) (fresh S) (lost S) (b2i (smokes S = true)) ++ (shB cy qq bi si (va_up f 1 (stkF S (f 1) (minN (bstN (si 1)) (gcN S))))))))) H3 := hP3
          replace hD3 : va_D (va_A _ sz) ([sO cy hh a kk dd b w ee qq ik] ++ (pS cy a (drwN S (minN (bstN (si 1)) (gcN S))) ++ ([ia cy (hh 1) 7 C] ++ (aS cy b (PR S) F1_42 N1_42 B1_42 O1_42 Sd1_42 Dv1_42 L1_42 (nI (RC S)) (b2i (RC S = 60)) (fresh S) (lost S) (b2i (smokes S = true)) ++ (shB cy qq bi si (va_up f 1 (stkF S (f 1) (minN (bstN (si 1)) (gcN S))))))))) := hD3
          refine lv_iload_n hx hb dX6_sticks_88 rfl (lv_at hl4 1 rfl) ?_
          have hcd : cSh bi 1 = 7 := by unfold cSh; clear hx hb hml hown hr hlocks hw hsz hA hG hK hP3 hD3 hS3 hl4 ih_63; grind
          have hq9 : ([sO cy hh a kk dd b w ee qq ik] ++ (pS cy a (drwN S (minN (bstN (si 1)) (gcN S))) ++ ([ia cy (hh 1) 7 C] ++ (aS cy b (PR S) F1_42 N1_42 B1_42 O1_42 Sd1_42 Dv1_42 L1_42 (nI (RC S)) (b2i (RC S = 60)) (fresh S) (lost S) (b2i (smokes S = true)) ++ (shB cy qq bi si (va_up f 1 (stkF S (f 1) (minN (bstN (si 1)) (gcN S))))))))) = ([sO cy hh a kk dd b w ee qq ik] ++ (pS cy a (drwN S (minN (bstN (si 1)) (gcN S))) ++ ([ia cy (hh 1) 7 (fnd C (cSh bi 1))] ++ (aS cy b (PR S) F1_42 N1_42 B1_42 O1_42 Sd1_42 Dv1_42 L1_42 (nI (RC S)) (b2i (RC S = 60)) (fresh S) (lost S) (b2i (smokes S = true)) ++ (shB cy qq bi si (va_up f 1 (stkF S (f 1) (minN (bstN (si 1)) (gcN S))))))))) := congrArg (fun z9 => [sO cy hh a kk dd b w ee qq ik] ++ (pS cy a (drwN S (minN (bstN (si 1)) (gcN S))) ++ ([ia cy (hh 1) 7 z9] ++ (aS cy b (PR S) F1_42 N1_42 B1_42 O1_42 Sd1_42 Dv1_42 L1_42 (nI (RC S)) (b2i (RC S = 60)) (fresh S) (lost S) (b2i (smokes S = true)) ++ (shB cy qq bi si (va_up f 1 (stkF S (f 1) (minN (bstN (si 1)) (gcN S))))))))) (show C = (fnd C (cSh bi 1)) from fnd_o hcd)
          replace hP3 := (congrArg (fun z9 => va_P D vwCl z9 _) hq9).mp hP3
          replace hD3 := (congrArg (fun z9 => va_D _ z9) hq9).mp hD3
          clear hq9
          have hq9 : ([sO cy hh a kk dd b w ee qq ik] ++ (pS cy a (drwN S (minN (bstN (si 1)) (gcN S))) ++ ([ia cy (hh 1) 7 (fnd C (cSh bi 1))] ++ (aS cy b (PR S) F1_42 N1_42 B1_42 O1_42 Sd1_42 Dv1_42 L1_42 (nI (RC S)) (b2i (RC S = 60)) (fresh S) (lost S) (b2i (smokes S = true)) ++ (shB cy qq bi si (va_up f 1 (stkF S (f 1) (minN (bstN (si 1)) (gcN S))))))))) = ([sO cy hh a kk dd b w ee qq ik] ++ (pS cy a (if cSh bi 1 = 7 then drwN S (minN (bstN (si (bstN 1))) (gcN S)) else S) ++ ([ia cy (hh 1) 7 (fnd C (cSh bi 1))] ++ (aS cy b (PR S) F1_42 N1_42 B1_42 O1_42 Sd1_42 Dv1_42 L1_42 (nI (RC S)) (b2i (RC S = 60)) (fresh S) (lost S) (b2i (smokes S = true)) ++ (shB cy qq bi si (va_up f 1 (stkF S (f 1) (minN (bstN (si 1)) (gcN S))))))))) := congrArg (fun z9 => [sO cy hh a kk dd b w ee qq ik] ++ (pS cy a z9 ++ ([ia cy (hh 1) 7 (fnd C (cSh bi 1))] ++ (aS cy b (PR S) F1_42 N1_42 B1_42 O1_42 Sd1_42 Dv1_42 L1_42 (nI (RC S)) (b2i (RC S = 60)) (fresh S) (lost S) (b2i (smokes S = true)) ++ (shB cy qq bi si (va_up f 1 (stkF S (f 1) (minN (bstN (si 1)) (gcN S))))))))) (show (drwN S (minN (bstN (si 1)) (gcN S))) = (if cSh bi 1 = 7 then drwN S (minN (bstN (si (bstN 1))) (gcN S)) else S) from by rw [if_pos hcd]; simp only [hb0, hb1, hb2, hb3])
          replace hP3 := (congrArg (fun z9 => va_P D vwCl z9 _) hq9).mp hP3
          replace hD3 := (congrArg (fun z9 => va_D _ z9) hq9).mp hD3
          clear hq9
          have hq9 : ([sO cy hh a kk dd b w ee qq ik] ++ (pS cy a (if cSh bi 1 = 7 then drwN S (minN (bstN (si (bstN 1))) (gcN S)) else S) ++ ([ia cy (hh 1) 7 (fnd C (cSh bi 1))] ++ (aS cy b (PR S) F1_42 N1_42 B1_42 O1_42 Sd1_42 Dv1_42 L1_42 (nI (RC S)) (b2i (RC S = 60)) (fresh S) (lost S) (b2i (smokes S = true)) ++ (shB cy qq bi si (va_up f 1 (stkF S (f 1) (minN (bstN (si 1)) (gcN S))))))))) = ([sO cy hh a kk dd b w ee qq ik] ++ (pS cy a (if cSh bi 1 = 7 then drwN S (minN (bstN (si (bstN 1))) (gcN S)) else S) ++ ([ia cy (hh 1) 7 (fnd C (cSh bi 1))] ++ (aS cy b (PR S) F1_42 N1_42 B1_42 O1_42 Sd1_42 Dv1_42 L1_42 (nI (RC S)) (b2i (RC S = 60)) (fresh S) (lost S) (b2i (smokes S = true)) ++ (shB cy qq bi si (if cSh bi 1 = 7 then va_up f (bstN 1) (stkF S (f (bstN 1)) (minN (bstN (si (bstN 1))) (gcN S))) else f)))))) := congrArg (fun z9 => [sO cy hh a kk dd b w ee qq ik] ++ (pS cy a (if cSh bi 1 = 7 then drwN S (minN (bstN (si (bstN 1))) (gcN S)) else S) ++ ([ia cy (hh 1) 7 (fnd C (cSh bi 1))] ++ (aS cy b (PR S) F1_42 N1_42 B1_42 O1_42 Sd1_42 Dv1_42 L1_42 (nI (RC S)) (b2i (RC S = 60)) (fresh S) (lost S) (b2i (smokes S = true)) ++ (shB cy qq bi si z9))))) (show (va_up f 1 (stkF S (f 1) (minN (bstN (si 1)) (gcN S)))) = (if cSh bi 1 = 7 then va_up f (bstN 1) (stkF S (f (bstN 1)) (minN (bstN (si (bstN 1))) (gcN S))) else f) from by rw [if_pos hcd]; simp only [hb0, hb1, hb2, hb3])
          replace hP3 := (congrArg (fun z9 => va_P D vwCl z9 _) hq9).mp hP3
          replace hD3 := (congrArg (fun z9 => va_D _ z9) hq9).mp hD3
          clear hq9
          refine re_i (PR S, F1_42, N1_42, B1_42, O1_42, Sd1_42, Dv1_42, L1_42, nI (RC S), b2i (RC S = 60), fresh S, lost S, b2i (smokes S = true)) hx hb hr hlocks hP3 hD3 hS3 dX6_sticks_89 ?_
          exact (ans_o hcd (by simp only [hb0, hb1, hb2, hb3]))
        · refine lv_aload_n hx hb dX6_sticks_69 rfl (lv_at hl4 2 rfl) ?_
          refine lv_iload hx hb dX6_sticks_70 (lv_at hl4 0 rfl) ?_
          refine lv_aload_n hx hb dX6_sticks_72 rfl (lv_at hl4 3 rfl) ?_
          refine lv_iload hx hb dX6_sticks_73 (lv_at hl4 0 rfl) ?_
          refine cV_i (wc := [sO cy hh a kk dd b w ee qq ik] ++ (pS cy a (drwN S i) ++ (aS cy b (PR S) F1_42 N1_42 B1_42 O1_42 Sd1_42 Dv1_42 L1_42 (nI (RC S)) (b2i (RC S = 60)) (fresh S) (lost S) (b2i (smokes S = true))))) (wr := [ia cy (hh 1) 7 C, qsB cy qq, hO cy (qq 1) (qq 5) (bi 0) (si 0), hO cy (qq 2) (qq 6) (bi 1) (si 1), hO cy (qq 3) (qq 7) (bi 2) (si 2), hO cy (qq 4) (qq 8) (bi 3) (si 3), la cy (qq 5) 40 (f 0), la cy (qq 6) 40 (stkF S (f 1) i), la cy (qq 7) 40 (f 2), la cy (qq 8) 40 (f 3)]) (rest := [.int (nI i), .ref (qq 2)]) hx hb hml hown hw hG hK hP3 hD3 hS3 hA hl4 kc_X6_seenAt kw_3_119 [.int (nI i)] (c_X6_seenAt l D cy G H3.size hh a kk dd b w ee qq ik (drwN S i) (PR S) F1_42 N1_42 B1_42 O1_42 Sd1_42 Dv1_42 L1_42 (nI (RC S)) (b2i (RC S = 60)) (fresh S) (lost S) (b2i (smokes S = true)) i ((drwN_wf wf i).1) (by rw [(drwN_wf wf i).2.2]; omega)) [0, 1, 2, 3, 4, 5, 6, 7, 8, 9, 10, 12, 13, 14, 15, 16, 17, 18, 19, 20, 21, 22, 23, 24, 25, 26] [11, 27, 28, 29, 30, 31, 32, 33, 34, 35] rfl rfl rfl rfl rfl 0 rfl rfl rfl rfl rfl (Nat.le_of_ble_eq_true rfl) ⟨Nat.le_of_ble_eq_true rfl, Nat.le_of_ble_eq_true rfl⟩ dX6_sticks_75 ⟨Nat.le_of_ble_eq_true rfl, Nat.le_of_ble_eq_true rfl⟩ (fun r_75 u9 H4 locs4 hu9 hP4 hD4 hS4 => ?_)
          clear hP3 hD3 hS3 locs3 H3
          have hr_75 := hu9
          replace hP4 : va_P D vwCl ([ia cy (hh 1) 7 C, qsB cy qq, hO cy (qq 1) (qq 5) (bi 0) (si 0), hO cy (qq 2) (qq 6) (bi 1) (si 1), hO cy (qq 3) (qq 7) (bi 2) (si 2), hO cy (qq 4) (qq 8) (bi 3) (si 3), la cy (qq 5) 40 (f 0), la cy (qq 6) 40 (stkF S (f 1) i), la cy (qq 7) 40 (f 2), la cy (qq 8) 40 (f 3), sO cy hh a kk dd b w ee qq ik] ++ (pS cy a (drw (drwN S i)) ++ (aS cy b (PR S) F1_42 N1_42 B1_42 O1_42 Sd1_42 Dv1_42 L1_42 (nI (RC S)) (b2i (RC S = 60)) (fresh S) (lost S) (b2i (smokes S = true))))) H4 := hP4
          replace hD4 : va_D (va_A _ sz) ([ia cy (hh 1) 7 C, qsB cy qq, hO cy (qq 1) (qq 5) (bi 0) (si 0), hO cy (qq 2) (qq 6) (bi 1) (si 1), hO cy (qq 3) (qq 7) (bi 2) (si 2), hO cy (qq 4) (qq 8) (bi 3) (si 3), la cy (qq 5) 40 (f 0), la cy (qq 6) 40 (stkF S (f 1) i), la cy (qq 7) 40 (f 2), la cy (qq 8) 40 (f 3), sO cy hh a kk dd b w ee qq ik] ++ (pS cy a (drw (drwN S i)) ++ (aS cy b (PR S) F1_42 N1_42 B1_42 O1_42 Sd1_42 Dv1_42 L1_42 (nI (RC S)) (b2i (RC S = 60)) (fresh S) (lost S) (b2i (smokes S = true))))) := hD4
          replace hP4 := hP4.sub (ws' := [sO cy hh a kk dd b w ee qq ik] ++ (pS cy a (drw (drwN S i)) ++ ([ia cy (hh 1) 7 C] ++ (aS cy b (PR S) F1_42 N1_42 B1_42 O1_42 Sd1_42 Dv1_42 L1_42 (nI (RC S)) (b2i (RC S = 60)) (fresh S) (lost S) (b2i (smokes S = true)) ++ ([qsB cy qq, hO cy (qq 1) (qq 5) (bi 0) (si 0), hO cy (qq 2) (qq 6) (bi 1) (si 1), hO cy (qq 3) (qq 7) (bi 2) (si 2), hO cy (qq 4) (qq 8) (bi 3) (si 3), la cy (qq 5) 40 (f 0), la cy (qq 6) 40 (stkF S (f 1) i), la cy (qq 7) 40 (f 2), la cy (qq 8) 40 (f 3)]))))) [10, 11, 12, 13, 14, 15, 16, 17, 18, 19, 20, 0, 21, 22, 23, 24, 25, 26, 27, 28, 29, 30, 31, 32, 33, 34, 35, 1, 2, 3, 4, 5, 6, 7, 8, 9] rfl
          replace hD4 := hD4.sub (ws' := [sO cy hh a kk dd b w ee qq ik] ++ (pS cy a (drw (drwN S i)) ++ ([ia cy (hh 1) 7 C] ++ (aS cy b (PR S) F1_42 N1_42 B1_42 O1_42 Sd1_42 Dv1_42 L1_42 (nI (RC S)) (b2i (RC S = 60)) (fresh S) (lost S) (b2i (smokes S = true)) ++ ([qsB cy qq, hO cy (qq 1) (qq 5) (bi 0) (si 0), hO cy (qq 2) (qq 6) (bi 1) (si 1), hO cy (qq 3) (qq 7) (bi 2) (si 2), hO cy (qq 4) (qq 8) (bi 3) (si 3), la cy (qq 5) 40 (f 0), la cy (qq 6) 40 (stkF S (f 1) i), la cy (qq 7) 40 (f 2), la cy (qq 8) 40 (f 3)]))))) [10, 11, 12, 13, 14, 15, 16, 17, 18, 19, 20, 0, 21, 22, 23, 24, 25, 26, 27, 28, 29, 30, 31, 32, 33, 34, 35, 1, 2, 3, 4, 5, 6, 7, 8, 9] (by decide) rfl
          subst hr_75
          refine tp (show (seenV (drwN S i) (F1_42 i) i) = seenK S i from congrArg (fun z9 => seenV (drwN S i) z9 i) (hF_42 i (by omega))) ?_
          refine lv_i2l hx hb dX6_sticks_78 rfl ?_
          refine cV_v (wc := [hO cy (qq 2) (qq 6) (bi 1) (si 1), la cy (qq 6) 40 (stkF S (f 1) i)]) (wr := [sO cy hh a kk dd b w ee qq ik] ++ (pS cy a (drw (drwN S i)) ++ ([ia cy (hh 1) 7 C] ++ (aS cy b (PR S) F1_42 N1_42 B1_42 O1_42 Sd1_42 Dv1_42 L1_42 (nI (RC S)) (b2i (RC S = 60)) (fresh S) (lost S) (b2i (smokes S = true)) ++ ([qsB cy qq, hO cy (qq 1) (qq 5) (bi 0) (si 0), hO cy (qq 3) (qq 7) (bi 2) (si 2), hO cy (qq 4) (qq 8) (bi 3) (si 3), la cy (qq 5) 40 (f 0), la cy (qq 7) 40 (f 2), la cy (qq 8) 40 (f 3)]))))) (rest := []) hx hb hml hown hw hG hK hP4 hD4 hS4 hA hl4 kc_X2_put kw_3_132 [.int (nI i), .long ((seenK S i).toInt64)] (c_X2_put l D cy G H4.size (qq 2) (qq 6) (bi 1) (si 1) (stkF S (f 1) i) (bstN (si 1)) i ((seenK S i).toInt64) ((hso 1 (by decide)).1) (by omega) hq1) [29, 33] [0, 1, 2, 3, 4, 5, 6, 7, 8, 9, 10, 11, 12, 13, 14, 15, 16, 17, 18, 19, 20, 21, 22, 23, 24, 25, 26, 27, 28, 30, 31, 32, 34, 35] rfl rfl rfl rfl rfl 0 rfl rfl rfl rfl rfl (Nat.le_of_ble_eq_true rfl) ⟨Nat.le_of_ble_eq_true rfl, Nat.le_of_ble_eq_true rfl⟩ dX6_sticks_79 ⟨Nat.le_of_ble_eq_true rfl, Nat.le_of_ble_eq_true rfl⟩ (fun u9 H5 locs5 hu9 hP5 hD5 hS5 => ?_)
          clear hP4 hD4 hS4 locs4 H4
          replace hP5 : va_P D vwCl ([sO cy hh a kk dd b w ee qq ik] ++ (pS cy a (drw (drwN S i)) ++ ([ia cy (hh 1) 7 C] ++ (aS cy b (PR S) F1_42 N1_42 B1_42 O1_42 Sd1_42 Dv1_42 L1_42 (nI (RC S)) (b2i (RC S = 60)) (fresh S) (lost S) (b2i (smokes S = true)) ++ ([qsB cy qq, hO cy (qq 1) (qq 5) (bi 0) (si 0), hO cy (qq 3) (qq 7) (bi 2) (si 2), hO cy (qq 4) (qq 8) (bi 3) (si 3), la cy (qq 5) 40 (f 0), la cy (qq 7) 40 (f 2), la cy (qq 8) 40 (f 3), hO cy (qq 2) (qq 6) (bi 1) (si 1), la cy (qq 6) 40 (vp_updL (stkF S (f 1) i) i (nrw (bi 1) ((seenK S i).toInt64)))]))))) H5 := hP5
          replace hD5 : va_D (va_A _ sz) ([sO cy hh a kk dd b w ee qq ik] ++ (pS cy a (drw (drwN S i)) ++ ([ia cy (hh 1) 7 C] ++ (aS cy b (PR S) F1_42 N1_42 B1_42 O1_42 Sd1_42 Dv1_42 L1_42 (nI (RC S)) (b2i (RC S = 60)) (fresh S) (lost S) (b2i (smokes S = true)) ++ ([qsB cy qq, hO cy (qq 1) (qq 5) (bi 0) (si 0), hO cy (qq 3) (qq 7) (bi 2) (si 2), hO cy (qq 4) (qq 8) (bi 3) (si 3), la cy (qq 5) 40 (f 0), la cy (qq 7) 40 (f 2), la cy (qq 8) 40 (f 3), hO cy (qq 2) (qq 6) (bi 1) (si 1), la cy (qq 6) 40 (vp_updL (stkF S (f 1) i) i (nrw (bi 1) ((seenK S i).toInt64)))]))))) := hD5
          replace hP5 := hP5.sub (ws' := [sO cy hh a kk dd b w ee qq ik] ++ (pS cy a (drw (drwN S i)) ++ ([ia cy (hh 1) 7 C] ++ (aS cy b (PR S) F1_42 N1_42 B1_42 O1_42 Sd1_42 Dv1_42 L1_42 (nI (RC S)) (b2i (RC S = 60)) (fresh S) (lost S) (b2i (smokes S = true)) ++ ([qsB cy qq, hO cy (qq 1) (qq 5) (bi 0) (si 0), hO cy (qq 2) (qq 6) (bi 1) (si 1), hO cy (qq 3) (qq 7) (bi 2) (si 2), hO cy (qq 4) (qq 8) (bi 3) (si 3), la cy (qq 5) 40 (f 0), la cy (qq 6) 40 (vp_updL (stkF S (f 1) i) i (nrw (bi 1) ((seenK S i).toInt64))), la cy (qq 7) 40 (f 2), la cy (qq 8) 40 (f 3)]))))) [0, 1, 2, 3, 4, 5, 6, 7, 8, 9, 10, 11, 12, 13, 14, 15, 16, 17, 18, 19, 20, 21, 22, 23, 24, 25, 26, 27, 28, 34, 29, 30, 31, 35, 32, 33] rfl
          replace hD5 := hD5.sub (ws' := [sO cy hh a kk dd b w ee qq ik] ++ (pS cy a (drw (drwN S i)) ++ ([ia cy (hh 1) 7 C] ++ (aS cy b (PR S) F1_42 N1_42 B1_42 O1_42 Sd1_42 Dv1_42 L1_42 (nI (RC S)) (b2i (RC S = 60)) (fresh S) (lost S) (b2i (smokes S = true)) ++ ([qsB cy qq, hO cy (qq 1) (qq 5) (bi 0) (si 0), hO cy (qq 2) (qq 6) (bi 1) (si 1), hO cy (qq 3) (qq 7) (bi 2) (si 2), hO cy (qq 4) (qq 8) (bi 3) (si 3), la cy (qq 5) 40 (f 0), la cy (qq 6) 40 (vp_updL (stkF S (f 1) i) i (nrw (bi 1) ((seenK S i).toInt64))), la cy (qq 7) 40 (f 2), la cy (qq 8) 40 (f 3)]))))) [0, 1, 2, 3, 4, 5, 6, 7, 8, 9, 10, 11, 12, 13, 14, 15, 16, 17, 18, 19, 20, 21, 22, 23, 24, 25, 26, 27, 28, 34, 29, 30, 31, 35, 32, 33] (by decide) rfl
          have hq9 : ([sO cy hh a kk dd b w ee qq ik] ++ (pS cy a (drw (drwN S i)) ++ ([ia cy (hh 1) 7 C] ++ (aS cy b (PR S) F1_42 N1_42 B1_42 O1_42 Sd1_42 Dv1_42 L1_42 (nI (RC S)) (b2i (RC S = 60)) (fresh S) (lost S) (b2i (smokes S = true)) ++ ([qsB cy qq, hO cy (qq 1) (qq 5) (bi 0) (si 0), hO cy (qq 2) (qq 6) (bi 1) (si 1), hO cy (qq 3) (qq 7) (bi 2) (si 2), hO cy (qq 4) (qq 8) (bi 3) (si 3), la cy (qq 5) 40 (f 0), la cy (qq 6) 40 (vp_updL (stkF S (f 1) i) i (nrw (bi 1) ((seenK S i).toInt64))), la cy (qq 7) 40 (f 2), la cy (qq 8) 40 (f 3)]))))) = ([sO cy hh a kk dd b w ee qq ik] ++ (pS cy a (drwN S (i + 1)) ++ ([ia cy (hh 1) 7 C] ++ (aS cy b (PR S) F1_42 N1_42 B1_42 O1_42 Sd1_42 Dv1_42 L1_42 (nI (RC S)) (b2i (RC S = 60)) (fresh S) (lost S) (b2i (smokes S = true)) ++ ([qsB cy qq, hO cy (qq 1) (qq 5) (bi 0) (si 0), hO cy (qq 2) (qq 6) (bi 1) (si 1), hO cy (qq 3) (qq 7) (bi 2) (si 2), hO cy (qq 4) (qq 8) (bi 3) (si 3), la cy (qq 5) 40 (f 0), la cy (qq 6) 40 (vp_updL (stkF S (f 1) i) i (nrw (bi 1) ((seenK S i).toInt64))), la cy (qq 7) 40 (f 2), la cy (qq 8) 40 (f 3)]))))) := congrArg (fun z9 => [sO cy hh a kk dd b w ee qq ik] ++ (pS cy a z9 ++ ([ia cy (hh 1) 7 C] ++ (aS cy b (PR S) F1_42 N1_42 B1_42 O1_42 Sd1_42 Dv1_42 L1_42 (nI (RC S)) (b2i (RC S = 60)) (fresh S) (lost S) (b2i (smokes S = true)) ++ ([qsB cy qq, hO cy (qq 1) (qq 5) (bi 0) (si 0), hO cy (qq 2) (qq 6) (bi 1) (si 1), hO cy (qq 3) (qq 7) (bi 2) (si 2), hO cy (qq 4) (qq 8) (bi 3) (si 3), la cy (qq 5) 40 (f 0), la cy (qq 6) 40 (vp_updL (stkF S (f 1) i) i (nrw (bi 1) ((seenK S i).toInt64))), la cy (qq 7) 40 (f 2), la cy (qq 8) 40 (f 3)]))))) (show (drw (drwN S i)) = (drwN S (i + 1)) from rfl)
          replace hP5 := (congrArg (fun z9 => va_P D vwCl z9 _) hq9).mp hP5
          replace hD5 := (congrArg (fun z9 => va_D _ z9) hq9).mp hD5
          clear hq9
          have hq9 : ([sO cy hh a kk dd b w ee qq ik] ++ (pS cy a (drwN S (i + 1)) ++ ([ia cy (hh 1) 7 C] ++ (aS cy b (PR S) F1_42 N1_42 B1_42 O1_42 Sd1_42 Dv1_42 L1_42 (nI (RC S)) (b2i (RC S = 60)) (fresh S) (lost S) (b2i (smokes S = true)) ++ ([qsB cy qq, hO cy (qq 1) (qq 5) (bi 0) (si 0), hO cy (qq 2) (qq 6) (bi 1) (si 1), hO cy (qq 3) (qq 7) (bi 2) (si 2), hO cy (qq 4) (qq 8) (bi 3) (si 3), la cy (qq 5) 40 (f 0), la cy (qq 6) 40 (vp_updL (stkF S (f 1) i) i (nrw (bi 1) ((seenK S i).toInt64))), la cy (qq 7) 40 (f 2), la cy (qq 8) 40 (f 3)]))))) = ([sO cy hh a kk dd b w ee qq ik] ++ (pS cy a (drwN S (i + 1)) ++ ([ia cy (hh 1) 7 C] ++ (aS cy b (PR S) F1_42 N1_42 B1_42 O1_42 Sd1_42 Dv1_42 L1_42 (nI (RC S)) (b2i (RC S = 60)) (fresh S) (lost S) (b2i (smokes S = true)) ++ ([qsB cy qq, hO cy (qq 1) (qq 5) (bi 0) (si 0), hO cy (qq 2) (qq 6) (bi 1) (si 1), hO cy (qq 3) (qq 7) (bi 2) (si 2), hO cy (qq 4) (qq 8) (bi 3) (si 3), la cy (qq 5) 40 (f 0), la cy (qq 6) 40 (stkF S (f 1) (i + 1)), la cy (qq 7) 40 (f 2), la cy (qq 8) 40 (f 3)]))))) := congrArg (fun z9 => [sO cy hh a kk dd b w ee qq ik] ++ (pS cy a (drwN S (i + 1)) ++ ([ia cy (hh 1) 7 C] ++ (aS cy b (PR S) F1_42 N1_42 B1_42 O1_42 Sd1_42 Dv1_42 L1_42 (nI (RC S)) (b2i (RC S = 60)) (fresh S) (lost S) (b2i (smokes S = true)) ++ ([qsB cy qq, hO cy (qq 1) (qq 5) (bi 0) (si 0), hO cy (qq 2) (qq 6) (bi 1) (si 1), hO cy (qq 3) (qq 7) (bi 2) (si 2), hO cy (qq 4) (qq 8) (bi 3) (si 3), la cy (qq 5) 40 (f 0), la cy (qq 6) 40 z9, la cy (qq 7) 40 (f 2), la cy (qq 8) 40 (f 3)]))))) (show (vp_updL (stkF S (f 1) i) i (nrw (bi 1) ((seenK S i).toInt64))) = (stkF S (f 1) (i + 1)) from congrArg (vp_updL (stkF S (f 1) i) i) (nrw_small (seenV_rng _ _ _)))
          replace hP5 := (congrArg (fun z9 => va_P D vwCl z9 _) hq9).mp hP5
          replace hD5 := (congrArg (fun z9 => va_D _ z9) hq9).mp hD5
          clear hq9
          refine lv_iinc (v := nI (i + 1)) (lv' := [(4, .int (nI (i + 1))), (3, .int (nI (minN (bstN (si 1)) (gcN S)))), (2, .ref (qq 2)), (0, .ref (hh 0)), (1, .int 1)]) hx hb dX6_sticks_82 hl4 (k := 0) rfl (nI_inc _) (by decide) rfl (fun ls5 hl5 => ?_)
          clear hl4 ls4
          refine lv_goto (tgt := 63) hx hb dX6_sticks_85 (by decide) ?_
          exact ih_63 (i + 1) (by first | omega | assumption | rfl | simp_all) (by (try dsimp only); omega) H5 locs5 ls5 hP5 hD5 hS5 (lv_sub hl5 [0, 1, 2, 3, 4] rfl)
      · replace hP1 : va_P D vwCl ([sO cy hh a kk dd b w ee qq ik] ++ (pS cy a S ++ ([ia cy (hh 1) 7 C] ++ (aS cy b P F N B O Sd Dv L rc re fr lo sm ++ (shB cy qq bi si f))))) H1 := hP1
        replace hD1 : va_D (va_A _ sz) ([sO cy hh a kk dd b w ee qq ik] ++ (pS cy a S ++ ([ia cy (hh 1) 7 C] ++ (aS cy b P F N B O Sd Dv L rc re fr lo sm ++ (shB cy qq bi si f))))) := hD1
        refine lv_aload_n hx hb dX6_sticks_28 rfl (lv_at hl1 1 rfl) ?_
        refine lv_iconst (v := 5) hx hb dX6_sticks_29 (by decide) ?_
        refine cV_i (wc := [sO cy hh a kk dd b w ee qq ik, ia cy (hh 1) 7 C]) (wr := pS cy a S ++ (aS cy b P F N B O Sd Dv L rc re fr lo sm ++ (shB cy qq bi si f))) (rest := []) hx hb hml hown hw hG hK hP1 hD1 hS1 hA hl1 kc_X6_find kw_2_59 [.int 5] (c_X6_find l D cy G H1.size hh a kk dd b w ee qq ik C 5 (by first | omega | assumption)) [0, 11] [1, 2, 3, 4, 5, 6, 7, 8, 9, 10, 12, 13, 14, 15, 16, 17, 18, 19, 20, 21, 22, 23, 24, 25, 26, 27, 28, 29, 30, 31, 32, 33, 34, 35] rfl rfl rfl rfl rfl 0 rfl rfl rfl rfl rfl (Nat.le_of_ble_eq_true rfl) ⟨Nat.le_of_ble_eq_true rfl, Nat.le_of_ble_eq_true rfl⟩ dX6_sticks_30 ⟨Nat.le_of_ble_eq_true rfl, Nat.le_of_ble_eq_true rfl⟩ (fun r_30 u9 H2 locs2 hu9 hP2 hD2 hS2 => ?_)
        clear hP1 hD1 hS1 locs1 H1
        have hr_30 := hu9
        replace hP2 : va_P D vwCl (pS cy a S ++ (aS cy b P F N B O Sd Dv L rc re fr lo sm ++ (shB cy qq bi si f ++ ([sO cy hh a kk dd b w ee qq ik, ia cy (hh 1) 7 (upd C 5 (C 5 + 1))])))) H2 := hP2
        replace hD2 : va_D (va_A _ sz) (pS cy a S ++ (aS cy b P F N B O Sd Dv L rc re fr lo sm ++ (shB cy qq bi si f ++ ([sO cy hh a kk dd b w ee qq ik, ia cy (hh 1) 7 (upd C 5 (C 5 + 1))])))) := hD2
        replace hP2 := hP2.sub (ws' := [sO cy hh a kk dd b w ee qq ik] ++ (pS cy a S ++ ([ia cy (hh 1) 7 (upd C 5 (C 5 + 1))] ++ (aS cy b P F N B O Sd Dv L rc re fr lo sm ++ (shB cy qq bi si f))))) [34, 0, 1, 2, 3, 4, 5, 6, 7, 8, 9, 35, 10, 11, 12, 13, 14, 15, 16, 17, 18, 19, 20, 21, 22, 23, 24, 25, 26, 27, 28, 29, 30, 31, 32, 33] rfl
        replace hD2 := hD2.sub (ws' := [sO cy hh a kk dd b w ee qq ik] ++ (pS cy a S ++ ([ia cy (hh 1) 7 (upd C 5 (C 5 + 1))] ++ (aS cy b P F N B O Sd Dv L rc re fr lo sm ++ (shB cy qq bi si f))))) [34, 0, 1, 2, 3, 4, 5, 6, 7, 8, 9, 35, 10, 11, 12, 13, 14, 15, 16, 17, 18, 19, 20, 21, 22, 23, 24, 25, 26, 27, 28, 29, 30, 31, 32, 33] (by decide) rfl
        subst hr_30
        have hcd : cSh bi 1 = 5 := by unfold cSh; clear hx hb hml hown hr hlocks hw hsz hA hG hK hP2 hD2 hS2 hl1; grind
        have hq9 : ([sO cy hh a kk dd b w ee qq ik] ++ (pS cy a S ++ ([ia cy (hh 1) 7 (upd C 5 (C 5 + 1))] ++ (aS cy b P F N B O Sd Dv L rc re fr lo sm ++ (shB cy qq bi si f))))) = ([sO cy hh a kk dd b w ee qq ik] ++ (pS cy a S ++ ([ia cy (hh 1) 7 (fnd C (cSh bi 1))] ++ (aS cy b P F N B O Sd Dv L rc re fr lo sm ++ (shB cy qq bi si f))))) := congrArg (fun z9 => [sO cy hh a kk dd b w ee qq ik] ++ (pS cy a S ++ ([ia cy (hh 1) 7 z9] ++ (aS cy b P F N B O Sd Dv L rc re fr lo sm ++ (shB cy qq bi si f))))) (show (upd C 5 (C 5 + 1)) = (fnd C (cSh bi 1)) from fnd_f hcd (by decide))
        replace hP2 := (congrArg (fun z9 => va_P D vwCl z9 _) hq9).mp hP2
        replace hD2 := (congrArg (fun z9 => va_D _ z9) hq9).mp hD2
        clear hq9
        have hq9 : ([sO cy hh a kk dd b w ee qq ik] ++ (pS cy a S ++ ([ia cy (hh 1) 7 (fnd C (cSh bi 1))] ++ (aS cy b P F N B O Sd Dv L rc re fr lo sm ++ (shB cy qq bi si f))))) = ([sO cy hh a kk dd b w ee qq ik] ++ (pS cy a (if cSh bi 1 = 7 then drwN S (minN (bstN (si (bstN 1))) (gcN S)) else S) ++ ([ia cy (hh 1) 7 (fnd C (cSh bi 1))] ++ (aS cy b P F N B O Sd Dv L rc re fr lo sm ++ (shB cy qq bi si f))))) := congrArg (fun z9 => [sO cy hh a kk dd b w ee qq ik] ++ (pS cy a z9 ++ ([ia cy (hh 1) 7 (fnd C (cSh bi 1))] ++ (aS cy b P F N B O Sd Dv L rc re fr lo sm ++ (shB cy qq bi si f))))) (show S = (if cSh bi 1 = 7 then drwN S (minN (bstN (si (bstN 1))) (gcN S)) else S) from (if_neg (fun z9 => absurd (hcd.symm.trans z9) (by decide))).symm)
        replace hP2 := (congrArg (fun z9 => va_P D vwCl z9 _) hq9).mp hP2
        replace hD2 := (congrArg (fun z9 => va_D _ z9) hq9).mp hD2
        clear hq9
        have hq9 : ([sO cy hh a kk dd b w ee qq ik] ++ (pS cy a (if cSh bi 1 = 7 then drwN S (minN (bstN (si (bstN 1))) (gcN S)) else S) ++ ([ia cy (hh 1) 7 (fnd C (cSh bi 1))] ++ (aS cy b P F N B O Sd Dv L rc re fr lo sm ++ (shB cy qq bi si f))))) = ([sO cy hh a kk dd b w ee qq ik] ++ (pS cy a (if cSh bi 1 = 7 then drwN S (minN (bstN (si (bstN 1))) (gcN S)) else S) ++ ([ia cy (hh 1) 7 (fnd C (cSh bi 1))] ++ (aS cy b P F N B O Sd Dv L rc re fr lo sm ++ (shB cy qq bi si (if cSh bi 1 = 7 then va_up f (bstN 1) (stkF S (f (bstN 1)) (minN (bstN (si (bstN 1))) (gcN S))) else f)))))) := congrArg (fun z9 => [sO cy hh a kk dd b w ee qq ik] ++ (pS cy a (if cSh bi 1 = 7 then drwN S (minN (bstN (si (bstN 1))) (gcN S)) else S) ++ ([ia cy (hh 1) 7 (fnd C (cSh bi 1))] ++ (aS cy b P F N B O Sd Dv L rc re fr lo sm ++ (shB cy qq bi si z9))))) (show f = (if cSh bi 1 = 7 then va_up f (bstN 1) (stkF S (f (bstN 1)) (minN (bstN (si (bstN 1))) (gcN S))) else f) from (if_neg (fun z9 => absurd (hcd.symm.trans z9) (by decide))).symm)
        replace hP2 := (congrArg (fun z9 => va_P D vwCl z9 _) hq9).mp hP2
        replace hD2 := (congrArg (fun z9 => va_D _ z9) hq9).mp hD2
        clear hq9
        refine re_i (P, F, N, B, O, Sd, Dv, L, rc, re, fr, lo, sm) hx hb hr hlocks hP2 hD2 hS2 dX6_sticks_33 ?_
        exact (ans_f hcd (by decide) rfl)
    · replace hP1 : va_P D vwCl ([sO cy hh a kk dd b w ee qq ik] ++ (pS cy a S ++ ([ia cy (hh 1) 7 C] ++ (aS cy b P F N B O Sd Dv L rc re fr lo sm ++ ([qsB cy qq, hO cy (qq 1) (qq 5) (bi 0) (si 0), hO cy (qq 2) (qq 6) (bi 1) (si 1), hO cy (qq 3) (qq 7) (bi 2) (si 2), hO cy (qq 4) (qq 8) (bi 3) (si 3), la cy (qq 5) 40 (f 0), la cy (qq 6) 40 (f 1), la cy (qq 7) 40 (f 2), la cy (qq 8) 40 (f 3)]))))) H1 := hP1
      replace hD1 : va_D (va_A _ sz) ([sO cy hh a kk dd b w ee qq ik] ++ (pS cy a S ++ ([ia cy (hh 1) 7 C] ++ (aS cy b P F N B O Sd Dv L rc re fr lo sm ++ ([qsB cy qq, hO cy (qq 1) (qq 5) (bi 0) (si 0), hO cy (qq 2) (qq 6) (bi 1) (si 1), hO cy (qq 3) (qq 7) (bi 2) (si 2), hO cy (qq 4) (qq 8) (bi 3) (si 3), la cy (qq 5) 40 (f 0), la cy (qq 6) 40 (f 1), la cy (qq 7) 40 (f 2), la cy (qq 8) 40 (f 3)]))))) := hD1
      refine lv_aload_n hx hb dX6_sticks_14 rfl (lv_at hl0 0 rfl) ?_
      refine va_get (D := D) (ci := 6) (v := .ref (qq 0)) (C := RX6) (T := TX6) (N := 9) hx hb hw iX6 hown hK hP1 0 rfl rfl 7 (by decide) (hw _ kw_2_34) (fun _ h9 => h9) rfl dX6_sticks_15 ?_
      refine lv_iload_n hx hb dX6_sticks_18 rfl (lv_at hl0 1 rfl) ?_
      refine ald_q hx hb hK hP1 27 3 rfl rfl rfl 2 rfl (by first | omega | assumption) (by decide) (rfl) dX6_sticks_19 ?_
      refine lv_astore_n (lv' := [(2, .ref (qq 3)), (0, .ref (hh 0)), (1, .int 2)]) hx hb dX6_sticks_20 rfl hl0 (by decide) rfl (fun ls1 hl1 => ?_)
      clear hl0 ls0
      refine lv_aload_n hx hb dX6_sticks_21 rfl (lv_at hl1 0 rfl) ?_
      refine va_get (D := D) (ci := 2) (v := .int (bi 2)) (C := RX2) (T := TX2) (N := 3) hx hb hw iX2 hown hK hP1 30 rfl rfl 1 (by decide) (hw _ kw_2_16) (fun _ h9 => h9) rfl dX6_sticks_22 ?_
      refine lv_if_ne (tgt := 34) hx hb dX6_sticks_25 (by decide) (fun c_25 => ?_) (fun c_25 => ?_)
      · refine lv_aload_n hx hb dX6_sticks_34 rfl (lv_at hl1 1 rfl) ?_
        refine va_get (D := D) (ci := 6) (v := .ref (b 0)) (C := RX6) (T := TX6) (N := 9) hx hb hw iX6 hown hK hP1 0 rfl rfl 4 (by decide) (hw _ kw_2_31) (fun _ h9 => h9) rfl dX6_sticks_35 ?_
        refine lv_aload_n hx hb dX6_sticks_38 rfl (lv_at hl1 1 rfl) ?_
        refine va_get (D := D) (ci := 6) (v := .ref (a 0)) (C := RX6) (T := TX6) (N := 9) hx hb hw iX6 hown hK hP1 0 rfl rfl 0 (by decide) (hw _ kw_2_27) (fun _ h9 => h9) rfl dX6_sticks_39 ?_
        refine cV_v (wc := aS cy b P F N B O Sd Dv L rc re fr lo sm ++ (pS cy a S)) (wr := [sO cy hh a kk dd b w ee qq ik, ia cy (hh 1) 7 C, qsB cy qq, hO cy (qq 1) (qq 5) (bi 0) (si 0), hO cy (qq 2) (qq 6) (bi 1) (si 1), hO cy (qq 3) (qq 7) (bi 2) (si 2), hO cy (qq 4) (qq 8) (bi 3) (si 3), la cy (qq 5) 40 (f 0), la cy (qq 6) 40 (f 1), la cy (qq 7) 40 (f 2), la cy (qq 8) 40 (f 3)]) (rest := []) hx hb hml hown hw hG hK hP1 hD1 hS1 hA hl1 kc_X0_settle kw_3_52 [.ref (a 0)] (c_X0_settle l D cy G H1.size b P F N B O Sd Dv L rc re fr lo sm a S (by first | omega | assumption)) [12, 13, 14, 15, 16, 17, 18, 19, 20, 21, 22, 23, 24, 25, 26, 1, 2, 3, 4, 5, 6, 7, 8, 9, 10] [0, 11, 27, 28, 29, 30, 31, 32, 33, 34, 35] rfl rfl rfl rfl rfl 0 rfl rfl rfl rfl rfl (Nat.le_of_ble_eq_true rfl) ⟨Nat.le_of_ble_eq_true rfl, Nat.le_of_ble_eq_true rfl⟩ dX6_sticks_42 ⟨Nat.le_of_ble_eq_true rfl, Nat.le_of_ble_eq_true rfl⟩ (fun u9 H2 locs2 hu9 hP2 hD2 hS2 => ?_)
        clear hP1 hD1 hS1 locs1 H1
        obtain ⟨F1_42, N1_42, B1_42, O1_42, Sd1_42, Dv1_42, L1_42⟩ := u9
        have hF_42 := hu9
        replace hF_42 : ∀ g, g < gcN S → F1_42 g = flow S (PR S) g := hF_42
        replace hP2 : va_P D vwCl ([sO cy hh a kk dd b w ee qq ik, ia cy (hh 1) 7 C, qsB cy qq, hO cy (qq 1) (qq 5) (bi 0) (si 0), hO cy (qq 2) (qq 6) (bi 1) (si 1), hO cy (qq 3) (qq 7) (bi 2) (si 2), hO cy (qq 4) (qq 8) (bi 3) (si 3), la cy (qq 5) 40 (f 0), la cy (qq 6) 40 (f 1), la cy (qq 7) 40 (f 2), la cy (qq 8) 40 (f 3)] ++ (aS cy b (PR S) F1_42 N1_42 B1_42 O1_42 Sd1_42 Dv1_42 L1_42 (nI (RC S)) (b2i (RC S = 60)) (fresh S) (lost S) (b2i (smokes S = true)) ++ (pS cy a S))) H2 := hP2
        replace hD2 : va_D (va_A _ sz) ([sO cy hh a kk dd b w ee qq ik, ia cy (hh 1) 7 C, qsB cy qq, hO cy (qq 1) (qq 5) (bi 0) (si 0), hO cy (qq 2) (qq 6) (bi 1) (si 1), hO cy (qq 3) (qq 7) (bi 2) (si 2), hO cy (qq 4) (qq 8) (bi 3) (si 3), la cy (qq 5) 40 (f 0), la cy (qq 6) 40 (f 1), la cy (qq 7) 40 (f 2), la cy (qq 8) 40 (f 3)] ++ (aS cy b (PR S) F1_42 N1_42 B1_42 O1_42 Sd1_42 Dv1_42 L1_42 (nI (RC S)) (b2i (RC S = 60)) (fresh S) (lost S) (b2i (smokes S = true)) ++ (pS cy a S))) := hD2
        replace hP2 := hP2.sub (ws' := [sO cy hh a kk dd b w ee qq ik] ++ (pS cy a S ++ ([ia cy (hh 1) 7 C] ++ (aS cy b (PR S) F1_42 N1_42 B1_42 O1_42 Sd1_42 Dv1_42 L1_42 (nI (RC S)) (b2i (RC S = 60)) (fresh S) (lost S) (b2i (smokes S = true)) ++ ([qsB cy qq, hO cy (qq 1) (qq 5) (bi 0) (si 0), hO cy (qq 2) (qq 6) (bi 1) (si 1), hO cy (qq 3) (qq 7) (bi 2) (si 2), hO cy (qq 4) (qq 8) (bi 3) (si 3), la cy (qq 5) 40 (f 0), la cy (qq 6) 40 (f 1), la cy (qq 7) 40 (f 2), la cy (qq 8) 40 (f 3)]))))) [0, 26, 27, 28, 29, 30, 31, 32, 33, 34, 35, 1, 11, 12, 13, 14, 15, 16, 17, 18, 19, 20, 21, 22, 23, 24, 25, 2, 3, 4, 5, 6, 7, 8, 9, 10] rfl
        replace hD2 := hD2.sub (ws' := [sO cy hh a kk dd b w ee qq ik] ++ (pS cy a S ++ ([ia cy (hh 1) 7 C] ++ (aS cy b (PR S) F1_42 N1_42 B1_42 O1_42 Sd1_42 Dv1_42 L1_42 (nI (RC S)) (b2i (RC S = 60)) (fresh S) (lost S) (b2i (smokes S = true)) ++ ([qsB cy qq, hO cy (qq 1) (qq 5) (bi 0) (si 0), hO cy (qq 2) (qq 6) (bi 1) (si 1), hO cy (qq 3) (qq 7) (bi 2) (si 2), hO cy (qq 4) (qq 8) (bi 3) (si 3), la cy (qq 5) 40 (f 0), la cy (qq 6) 40 (f 1), la cy (qq 7) 40 (f 2), la cy (qq 8) 40 (f 3)]))))) [0, 26, 27, 28, 29, 30, 31, 32, 33, 34, 35, 1, 11, 12, 13, 14, 15, 16, 17, 18, 19, 20, 21, 22, 23, 24, 25, 2, 3, 4, 5, 6, 7, 8, 9, 10] (by decide) rfl
        refine lv_aload_n hx hb dX6_sticks_45 rfl (lv_at hl1 1 rfl) ?_
        refine va_get (D := D) (ci := 6) (v := .ref (a 0)) (C := RX6) (T := TX6) (N := 9) hx hb hw iX6 hown hK hP2 0 rfl rfl 0 (by decide) (hw _ kw_2_27) (fun _ h9 => h9) rfl dX6_sticks_46 ?_
        refine va_get (D := D) (ci := 1) (v := .int (S 1)) (C := RX1) (T := TX1) (N := 12) hx hb hw iX1 hown hK hP2 1 rfl rfl 1 (by decide) (hw _ kw_1_35) (fun _ h9 => h9) rfl dX6_sticks_49 ?_
        refine tp (show (S 1) = nI (gcN S) from wf_g wf) ?_
        refine lv_aload_n hx hb dX6_sticks_52 rfl (lv_at hl1 0 rfl) ?_
        refine va_get (D := D) (ci := 2) (v := .int (si 2)) (C := RX2) (T := TX2) (N := 3) hx hb hw iX2 hown hK hP2 30 rfl rfl 2 (by decide) (hw _ kw_2_18) (fun _ h9 => h9) rfl dX6_sticks_53 ?_
        refine tp (show (si 2) = nI (bstN (si 2)) from (hso 2 (by decide)).1) ?_
        refine va_mmin hx hb (by rw [hml]; exact hl1.1.symm) hown (hw _ kw_3_98) (hw _ kw_2_179) (hw _ kw_1_10) (hw _ kwm_min) (Nat.le_of_ble_eq_true rfl) (Nat.le_of_ble_eq_true rfl) (Nat.le_of_ble_eq_true rfl) (Nat.le_of_ble_eq_true rfl) dX6_sticks_56 ?_
        refine tp (show (if (nI (bstN (si 2))) < (nI (gcN S)) then (nI (bstN (si 2))) else (nI (gcN S))) = nI (minN (bstN (si 2)) (gcN S)) from min_nI (by omega) (by omega)) ?_
        refine lv_istore_n (lv' := [(3, .int (nI (minN (bstN (si 2)) (gcN S)))), (2, .ref (qq 3)), (0, .ref (hh 0)), (1, .int 2)]) hx hb dX6_sticks_59 rfl hl1 (by decide) rfl (fun ls2 hl2 => ?_)
        clear hl1 ls1
        have hmn := minN_l (bstN (si 2)) (gcN S)
        refine lv_iconst (v := 0) hx hb dX6_sticks_60 (by decide) ?_
        refine lv_istore (lv' := [(4, .int 0), (3, .int (nI (minN (bstN (si 2)) (gcN S)))), (2, .ref (qq 3)), (0, .ref (hh 0)), (1, .int 2)]) hx hb dX6_sticks_61 hl2 (by decide) rfl (fun ls3 hl3 => ?_)
        clear hl2 ls2
        have hq9 : ([sO cy hh a kk dd b w ee qq ik] ++ (pS cy a S ++ ([ia cy (hh 1) 7 C] ++ (aS cy b (PR S) F1_42 N1_42 B1_42 O1_42 Sd1_42 Dv1_42 L1_42 (nI (RC S)) (b2i (RC S = 60)) (fresh S) (lost S) (b2i (smokes S = true)) ++ ([qsB cy qq, hO cy (qq 1) (qq 5) (bi 0) (si 0), hO cy (qq 2) (qq 6) (bi 1) (si 1), hO cy (qq 3) (qq 7) (bi 2) (si 2), hO cy (qq 4) (qq 8) (bi 3) (si 3), la cy (qq 5) 40 (f 0), la cy (qq 6) 40 (f 1), la cy (qq 7) 40 (f 2), la cy (qq 8) 40 (f 3)]))))) = ([sO cy hh a kk dd b w ee qq ik] ++ (pS cy a (drwN S 0) ++ ([ia cy (hh 1) 7 C] ++ (aS cy b (PR S) F1_42 N1_42 B1_42 O1_42 Sd1_42 Dv1_42 L1_42 (nI (RC S)) (b2i (RC S = 60)) (fresh S) (lost S) (b2i (smokes S = true)) ++ ([qsB cy qq, hO cy (qq 1) (qq 5) (bi 0) (si 0), hO cy (qq 2) (qq 6) (bi 1) (si 1), hO cy (qq 3) (qq 7) (bi 2) (si 2), hO cy (qq 4) (qq 8) (bi 3) (si 3), la cy (qq 5) 40 (f 0), la cy (qq 6) 40 (f 1), la cy (qq 7) 40 (f 2), la cy (qq 8) 40 (f 3)]))))) := congrArg (fun z9 => [sO cy hh a kk dd b w ee qq ik] ++ (pS cy a z9 ++ ([ia cy (hh 1) 7 C] ++ (aS cy b (PR S) F1_42 N1_42 B1_42 O1_42 Sd1_42 Dv1_42 L1_42 (nI (RC S)) (b2i (RC S = 60)) (fresh S) (lost S) (b2i (smokes S = true)) ++ ([qsB cy qq, hO cy (qq 1) (qq 5) (bi 0) (si 0), hO cy (qq 2) (qq 6) (bi 1) (si 1), hO cy (qq 3) (qq 7) (bi 2) (si 2), hO cy (qq 4) (qq 8) (bi 3) (si 3), la cy (qq 5) 40 (f 0), la cy (qq 6) 40 (f 1), la cy (qq 7) 40 (f 2), la cy (qq 8) 40 (f 3)]))))) (show S = (drwN S 0) from rfl)
        replace hP2 := (congrArg (fun z9 => va_P D vwCl z9 _) hq9).mp hP2
        replace hD2 := (congrArg (fun z9 => va_D _ z9) hq9).mp hD2
        clear hq9
        have hq9 : ([sO cy hh a kk dd b w ee qq ik] ++ (pS cy a (drwN S 0) ++ ([ia cy (hh 1) 7 C] ++ (aS cy b (PR S) F1_42 N1_42 B1_42 O1_42 Sd1_42 Dv1_42 L1_42 (nI (RC S)) (b2i (RC S = 60)) (fresh S) (lost S) (b2i (smokes S = true)) ++ ([qsB cy qq, hO cy (qq 1) (qq 5) (bi 0) (si 0), hO cy (qq 2) (qq 6) (bi 1) (si 1), hO cy (qq 3) (qq 7) (bi 2) (si 2), hO cy (qq 4) (qq 8) (bi 3) (si 3), la cy (qq 5) 40 (f 0), la cy (qq 6) 40 (f 1), la cy (qq 7) 40 (f 2), la cy (qq 8) 40 (f 3)]))))) = ([sO cy hh a kk dd b w ee qq ik] ++ (pS cy a (drwN S 0) ++ ([ia cy (hh 1) 7 C] ++ (aS cy b (PR S) F1_42 N1_42 B1_42 O1_42 Sd1_42 Dv1_42 L1_42 (nI (RC S)) (b2i (RC S = 60)) (fresh S) (lost S) (b2i (smokes S = true)) ++ ([qsB cy qq, hO cy (qq 1) (qq 5) (bi 0) (si 0), hO cy (qq 2) (qq 6) (bi 1) (si 1), hO cy (qq 3) (qq 7) (bi 2) (si 2), hO cy (qq 4) (qq 8) (bi 3) (si 3), la cy (qq 5) 40 (f 0), la cy (qq 6) 40 (f 1), la cy (qq 7) 40 (stkF S (f 2) 0), la cy (qq 8) 40 (f 3)]))))) := congrArg (fun z9 => [sO cy hh a kk dd b w ee qq ik] ++ (pS cy a (drwN S 0) ++ ([ia cy (hh 1) 7 C] ++ (aS cy b (PR S) F1_42 N1_42 B1_42 O1_42 Sd1_42 Dv1_42 L1_42 (nI (RC S)) (b2i (RC S = 60)) (fresh S) (lost S) (b2i (smokes S = true)) ++ ([qsB cy qq, hO cy (qq 1) (qq 5) (bi 0) (si 0), hO cy (qq 2) (qq 6) (bi 1) (si 1), hO cy (qq 3) (qq 7) (bi 2) (si 2), hO cy (qq 4) (qq 8) (bi 3) (si 3), la cy (qq 5) 40 (f 0), la cy (qq 6) 40 (f 1), la cy (qq 7) 40 z9, la cy (qq 8) 40 (f 3)]))))) (show (f 2) = (stkF S (f 2) 0) from rfl)
        replace hP2 := (congrArg (fun z9 => va_P D vwCl z9 _) hq9).mp hP2
        replace hD2 := (congrArg (fun z9 => va_D _ z9) hq9).mp hD2
        clear hq9
        refine wlp (ι := Nat) (nL := 5) (fun x9 => (x9 ≤ minN (bstN (si 2)) (gcN S))) (fun x9 => [sO cy hh a kk dd b w ee qq ik] ++ (pS cy a (drwN S x9) ++ ([ia cy (hh 1) 7 C] ++ (aS cy b (PR S) F1_42 N1_42 B1_42 O1_42 Sd1_42 Dv1_42 L1_42 (nI (RC S)) (b2i (RC S = 60)) (fresh S) (lost S) (b2i (smokes S = true)) ++ ([qsB cy qq, hO cy (qq 1) (qq 5) (bi 0) (si 0), hO cy (qq 2) (qq 6) (bi 1) (si 1), hO cy (qq 3) (qq 7) (bi 2) (si 2), hO cy (qq 4) (qq 8) (bi 3) (si 3), la cy (qq 5) 40 (f 0), la cy (qq 6) 40 (f 1), la cy (qq 7) 40 (stkF S (f 2) x9), la cy (qq 8) 40 (f 3)]))))) (fun x9 => [(4, .int (nI x9)), (3, .int (nI (minN (bstN (si 2)) (gcN S)))), (2, .ref (qq 3)), (0, .ref (hh 0)), (1, .int 2)]) (fun x9 => []) (fun x9 => minN (bstN (si 2)) (gcN S) - x9) 63 ?_ 0 (by first | omega | assumption | rfl | simp_all) rfl hP2 hD2 hS2 (lv_sub hl3 [0, 1, 2, 3, 4] rfl)
        clear hP2 hD2 hS2 locs2 H2 hl3 ls3
        intro x9 hI ih_63 H3 locs3 ls4 hP3 hD3 hS3 hl4
        obtain ⟨i, rfl⟩ : ∃ z9, z9 = x9 := ⟨_, rfl⟩
        have hi := hI
        replace hi : i ≤ minN (bstN (si 2)) (gcN S) := hi
        replace hP3 : va_P D vwCl ([sO cy hh a kk dd b w ee qq ik] ++ (pS cy a (drwN S i) ++ ([ia cy (hh 1) 7 C] ++ (aS cy b (PR S) F1_42 N1_42 B1_42 O1_42 Sd1_42 Dv1_42 L1_42 (nI (RC S)) (b2i (RC S = 60)) (fresh S) (lost S) (b2i (smokes S = true)) ++ ([qsB cy qq, hO cy (qq 1) (qq 5) (bi 0) (si 0), hO cy (qq 2) (qq 6) (bi 1) (si 1), hO cy (qq 3) (qq 7) (bi 2) (si 2), hO cy (qq 4) (qq 8) (bi 3) (si 3), la cy (qq 5) 40 (f 0), la cy (qq 6) 40 (f 1), la cy (qq 7) 40 (stkF S (f 2) i), la cy (qq 8) 40 (f 3)]))))) H3 := hP3
        replace hD3 : va_D (va_A _ sz) ([sO cy hh a kk dd b w ee qq ik] ++ (pS cy a (drwN S i) ++ ([ia cy (hh 1) 7 C] ++ (aS cy b (PR S) F1_42 N1_42 B1_42 O1_42 Sd1_42 Dv1_42 L1_42 (nI (RC S)) (b2i (RC S = 60)) (fresh S) (lost S) (b2i (smokes S = true)) ++ ([qsB cy qq, hO cy (qq 1) (qq 5) (bi 0) (si 0), hO cy (qq 2) (qq 6) (bi 1) (si 1), hO cy (qq 3) (qq 7) (bi 2) (si 2), hO cy (qq 4) (qq 8) (bi 3) (si 3), la cy (qq 5) 40 (f 0), la cy (qq 6) 40 (f 1), la cy (qq 7) 40 (stkF S (f 2) i), la cy (qq 8) 40 (f 3)]))))) := hD3
        replace hl4 : lv_has ls4 5 [(4, .int (nI i)), (3, .int (nI (minN (bstN (si 2)) (gcN S)))), (2, .ref (qq 3)), (0, .ref (hh 0)), (1, .int 2)] := hl4
        show W p l e _ s m _ below meth c _ _ _ _ _ (F0 m 63 ls4 [])
        refine lv_iload hx hb dX6_sticks_63 (lv_at hl4 0 rfl) ?_
        refine lv_iload_n hx hb dX6_sticks_65 rfl (lv_at hl4 1 rfl) ?_
        refine ln_ge (tgt := 88) i (minN (bstN (si 2)) (gcN S)) rfl rfl (by omega) (by omega) hx hb dX6_sticks_66 (by decide) (fun c_66 => ?_) (fun c_66 => ?_)
        · have hie : i = minN (bstN (si 2)) (gcN S) := (by omega)
          have hq9 : ([sO cy hh a kk dd b w ee qq ik] ++ (pS cy a (drwN S i) ++ ([ia cy (hh 1) 7 C] ++ (aS cy b (PR S) F1_42 N1_42 B1_42 O1_42 Sd1_42 Dv1_42 L1_42 (nI (RC S)) (b2i (RC S = 60)) (fresh S) (lost S) (b2i (smokes S = true)) ++ ([qsB cy qq, hO cy (qq 1) (qq 5) (bi 0) (si 0), hO cy (qq 2) (qq 6) (bi 1) (si 1), hO cy (qq 3) (qq 7) (bi 2) (si 2), hO cy (qq 4) (qq 8) (bi 3) (si 3), la cy (qq 5) 40 (f 0), la cy (qq 6) 40 (f 1), la cy (qq 7) 40 (stkF S (f 2) i), la cy (qq 8) 40 (f 3)]))))) = ([sO cy hh a kk dd b w ee qq ik] ++ (pS cy a (drwN S (minN (bstN (si 2)) (gcN S))) ++ ([ia cy (hh 1) 7 C] ++ (aS cy b (PR S) F1_42 N1_42 B1_42 O1_42 Sd1_42 Dv1_42 L1_42 (nI (RC S)) (b2i (RC S = 60)) (fresh S) (lost S) (b2i (smokes S = true)) ++ ([qsB cy qq, hO cy (qq 1) (qq 5) (bi 0) (si 0), hO cy (qq 2) (qq 6) (bi 1) (si 1), hO cy (qq 3) (qq 7) (bi 2) (si 2), hO cy (qq 4) (qq 8) (bi 3) (si 3), la cy (qq 5) 40 (f 0), la cy (qq 6) 40 (f 1), la cy (qq 7) 40 (stkF S (f 2) i), la cy (qq 8) 40 (f 3)]))))) := congrArg (fun z9 => [sO cy hh a kk dd b w ee qq ik] ++ (pS cy a z9 ++ ([ia cy (hh 1) 7 C] ++ (aS cy b (PR S) F1_42 N1_42 B1_42 O1_42 Sd1_42 Dv1_42 L1_42 (nI (RC S)) (b2i (RC S = 60)) (fresh S) (lost S) (b2i (smokes S = true)) ++ ([qsB cy qq, hO cy (qq 1) (qq 5) (bi 0) (si 0), hO cy (qq 2) (qq 6) (bi 1) (si 1), hO cy (qq 3) (qq 7) (bi 2) (si 2), hO cy (qq 4) (qq 8) (bi 3) (si 3), la cy (qq 5) 40 (f 0), la cy (qq 6) 40 (f 1), la cy (qq 7) 40 (stkF S (f 2) i), la cy (qq 8) 40 (f 3)]))))) (show (drwN S i) = (drwN S (minN (bstN (si 2)) (gcN S))) from by rw [hie])
          replace hP3 := (congrArg (fun z9 => va_P D vwCl z9 _) hq9).mp hP3
          replace hD3 := (congrArg (fun z9 => va_D _ z9) hq9).mp hD3
          clear hq9
          have hq9 : ([sO cy hh a kk dd b w ee qq ik] ++ (pS cy a (drwN S (minN (bstN (si 2)) (gcN S))) ++ ([ia cy (hh 1) 7 C] ++ (aS cy b (PR S) F1_42 N1_42 B1_42 O1_42 Sd1_42 Dv1_42 L1_42 (nI (RC S)) (b2i (RC S = 60)) (fresh S) (lost S) (b2i (smokes S = true)) ++ ([qsB cy qq, hO cy (qq 1) (qq 5) (bi 0) (si 0), hO cy (qq 2) (qq 6) (bi 1) (si 1), hO cy (qq 3) (qq 7) (bi 2) (si 2), hO cy (qq 4) (qq 8) (bi 3) (si 3), la cy (qq 5) 40 (f 0), la cy (qq 6) 40 (f 1), la cy (qq 7) 40 (stkF S (f 2) i), la cy (qq 8) 40 (f 3)]))))) = ([sO cy hh a kk dd b w ee qq ik] ++ (pS cy a (drwN S (minN (bstN (si 2)) (gcN S))) ++ ([ia cy (hh 1) 7 C] ++ (aS cy b (PR S) F1_42 N1_42 B1_42 O1_42 Sd1_42 Dv1_42 L1_42 (nI (RC S)) (b2i (RC S = 60)) (fresh S) (lost S) (b2i (smokes S = true)) ++ ([qsB cy qq, hO cy (qq 1) (qq 5) (bi 0) (si 0), hO cy (qq 2) (qq 6) (bi 1) (si 1), hO cy (qq 3) (qq 7) (bi 2) (si 2), hO cy (qq 4) (qq 8) (bi 3) (si 3), la cy (qq 5) 40 (f 0), la cy (qq 6) 40 (f 1), la cy (qq 7) 40 (stkF S (f 2) (minN (bstN (si 2)) (gcN S))), la cy (qq 8) 40 (f 3)]))))) := congrArg (fun z9 => [sO cy hh a kk dd b w ee qq ik] ++ (pS cy a (drwN S (minN (bstN (si 2)) (gcN S))) ++ ([ia cy (hh 1) 7 C] ++ (aS cy b (PR S) F1_42 N1_42 B1_42 O1_42 Sd1_42 Dv1_42 L1_42 (nI (RC S)) (b2i (RC S = 60)) (fresh S) (lost S) (b2i (smokes S = true)) ++ ([qsB cy qq, hO cy (qq 1) (qq 5) (bi 0) (si 0), hO cy (qq 2) (qq 6) (bi 1) (si 1), hO cy (qq 3) (qq 7) (bi 2) (si 2), hO cy (qq 4) (qq 8) (bi 3) (si 3), la cy (qq 5) 40 (f 0), la cy (qq 6) 40 (f 1), la cy (qq 7) 40 z9, la cy (qq 8) 40 (f 3)]))))) (show (stkF S (f 2) i) = (stkF S (f 2) (minN (bstN (si 2)) (gcN S))) from by rw [hie])
          replace hP3 := (congrArg (fun z9 => va_P D vwCl z9 _) hq9).mp hP3
          replace hD3 := (congrArg (fun z9 => va_D _ z9) hq9).mp hD3
          clear hq9
          replace hP3 : va_P D vwCl ([sO cy hh a kk dd b w ee qq ik] ++ (pS cy a (drwN S (minN (bstN (si 2)) (gcN S))) ++ ([ia cy (hh 1) 7 C] ++ (aS cy b (PR S) F1_42 N1_42 B1_42 O1_42 Sd1_42 Dv1_42 L1_42 (nI (RC S)) (b2i (RC S = 60)) (fresh S) (lost S) (b2i (smokes S = true)) ++ (shB cy qq bi si (va_up f 2 (stkF S (f 2) (minN (bstN (si 2)) (gcN S))))))))) H3 := hP3
          replace hD3 : va_D (va_A _ sz) ([sO cy hh a kk dd b w ee qq ik] ++ (pS cy a (drwN S (minN (bstN (si 2)) (gcN S))) ++ ([ia cy (hh 1) 7 C] ++ (aS cy b (PR S) F1_42 N1_42 B1_42 O1_42 Sd1_42 Dv1_42 L1_42 (nI (RC S)) (b2i (RC S = 60)) (fresh S) (lost S) (b2i (smokes S = true)) ++ (shB cy qq bi si (va_up f 2 (stkF S (f 2) (minN (bstN (si 2)) (gcN S))))))))) := hD3
          refine lv_iload_n hx hb dX6_sticks_88 rfl (lv_at hl4 1 rfl) ?_
          have hcd : cSh bi 2 = 7 := by unfold cSh; clear hx hb hml hown hr hlocks hw hsz hA hG hK hP3 hD3 hS3 hl4 ih_63; grind
          have hq9 : ([sO cy hh a kk dd b w ee qq ik] ++ (pS cy a (drwN S (minN (bstN (si 2)) (gcN S))) ++ ([ia cy (hh 1) 7 C] ++ (aS cy b (PR S) F1_42 N1_42 B1_42 O1_42 Sd1_42 Dv1_42 L1_42 (nI (RC S)) (b2i (RC S = 60)) (fresh S) (lost S) (b2i (smokes S = true)) ++ (shB cy qq bi si (va_up f 2 (stkF S (f 2) (minN (bstN (si 2)) (gcN S))))))))) = ([sO cy hh a kk dd b w ee qq ik] ++ (pS cy a (drwN S (minN (bstN (si 2)) (gcN S))) ++ ([ia cy (hh 1) 7 (fnd C (cSh bi 2))] ++ (aS cy b (PR S) F1_42 N1_42 B1_42 O1_42 Sd1_42 Dv1_42 L1_42 (nI (RC S)) (b2i (RC S = 60)) (fresh S) (lost S) (b2i (smokes S = true)) ++ (shB cy qq bi si (va_up f 2 (stkF S (f 2) (minN (bstN (si 2)) (gcN S))))))))) := congrArg (fun z9 => [sO cy hh a kk dd b w ee qq ik] ++ (pS cy a (drwN S (minN (bstN (si 2)) (gcN S))) ++ ([ia cy (hh 1) 7 z9] ++ (aS cy b (PR S) F1_42 N1_42 B1_42 O1_42 Sd1_42 Dv1_42 L1_42 (nI (RC S)) (b2i (RC S = 60)) (fresh S) (lost S) (b2i (smokes S = true)) ++ (shB cy qq bi si (va_up f 2 (stkF S (f 2) (minN (bstN (si 2)) (gcN S))))))))) (show C = (fnd C (cSh bi 2)) from fnd_o hcd)
          replace hP3 := (congrArg (fun z9 => va_P D vwCl z9 _) hq9).mp hP3
          replace hD3 := (congrArg (fun z9 => va_D _ z9) hq9).mp hD3
          clear hq9
          have hq9 : ([sO cy hh a kk dd b w ee qq ik] ++ (pS cy a (drwN S (minN (bstN (si 2)) (gcN S))) ++ ([ia cy (hh 1) 7 (fnd C (cSh bi 2))] ++ (aS cy b (PR S) F1_42 N1_42 B1_42 O1_42 Sd1_42 Dv1_42 L1_42 (nI (RC S)) (b2i (RC S = 60)) (fresh S) (lost S) (b2i (smokes S = true)) ++ (shB cy qq bi si (va_up f 2 (stkF S (f 2) (minN (bstN (si 2)) (gcN S))))))))) = ([sO cy hh a kk dd b w ee qq ik] ++ (pS cy a (if cSh bi 2 = 7 then drwN S (minN (bstN (si (bstN 2))) (gcN S)) else S) ++ ([ia cy (hh 1) 7 (fnd C (cSh bi 2))] ++ (aS cy b (PR S) F1_42 N1_42 B1_42 O1_42 Sd1_42 Dv1_42 L1_42 (nI (RC S)) (b2i (RC S = 60)) (fresh S) (lost S) (b2i (smokes S = true)) ++ (shB cy qq bi si (va_up f 2 (stkF S (f 2) (minN (bstN (si 2)) (gcN S))))))))) := congrArg (fun z9 => [sO cy hh a kk dd b w ee qq ik] ++ (pS cy a z9 ++ ([ia cy (hh 1) 7 (fnd C (cSh bi 2))] ++ (aS cy b (PR S) F1_42 N1_42 B1_42 O1_42 Sd1_42 Dv1_42 L1_42 (nI (RC S)) (b2i (RC S = 60)) (fresh S) (lost S) (b2i (smokes S = true)) ++ (shB cy qq bi si (va_up f 2 (stkF S (f 2) (minN (bstN (si 2)) (gcN S))))))))) (show (drwN S (minN (bstN (si 2)) (gcN S))) = (if cSh bi 2 = 7 then drwN S (minN (bstN (si (bstN 2))) (gcN S)) else S) from by rw [if_pos hcd]; simp only [hb0, hb1, hb2, hb3])
          replace hP3 := (congrArg (fun z9 => va_P D vwCl z9 _) hq9).mp hP3
          replace hD3 := (congrArg (fun z9 => va_D _ z9) hq9).mp hD3
          clear hq9
          have hq9 : ([sO cy hh a kk dd b w ee qq ik] ++ (pS cy a (if cSh bi 2 = 7 then drwN S (minN (bstN (si (bstN 2))) (gcN S)) else S) ++ ([ia cy (hh 1) 7 (fnd C (cSh bi 2))] ++ (aS cy b (PR S) F1_42 N1_42 B1_42 O1_42 Sd1_42 Dv1_42 L1_42 (nI (RC S)) (b2i (RC S = 60)) (fresh S) (lost S) (b2i (smokes S = true)) ++ (shB cy qq bi si (va_up f 2 (stkF S (f 2) (minN (bstN (si 2)) (gcN S))))))))) = ([sO cy hh a kk dd b w ee qq ik] ++ (pS cy a (if cSh bi 2 = 7 then drwN S (minN (bstN (si (bstN 2))) (gcN S)) else S) ++ ([ia cy (hh 1) 7 (fnd C (cSh bi 2))] ++ (aS cy b (PR S) F1_42 N1_42 B1_42 O1_42 Sd1_42 Dv1_42 L1_42 (nI (RC S)) (b2i (RC S = 60)) (fresh S) (lost S) (b2i (smokes S = true)) ++ (shB cy qq bi si (if cSh bi 2 = 7 then va_up f (bstN 2) (stkF S (f (bstN 2)) (minN (bstN (si (bstN 2))) (gcN S))) else f)))))) := congrArg (fun z9 => [sO cy hh a kk dd b w ee qq ik] ++ (pS cy a (if cSh bi 2 = 7 then drwN S (minN (bstN (si (bstN 2))) (gcN S)) else S) ++ ([ia cy (hh 1) 7 (fnd C (cSh bi 2))] ++ (aS cy b (PR S) F1_42 N1_42 B1_42 O1_42 Sd1_42 Dv1_42 L1_42 (nI (RC S)) (b2i (RC S = 60)) (fresh S) (lost S) (b2i (smokes S = true)) ++ (shB cy qq bi si z9))))) (show (va_up f 2 (stkF S (f 2) (minN (bstN (si 2)) (gcN S)))) = (if cSh bi 2 = 7 then va_up f (bstN 2) (stkF S (f (bstN 2)) (minN (bstN (si (bstN 2))) (gcN S))) else f) from by rw [if_pos hcd]; simp only [hb0, hb1, hb2, hb3])
          replace hP3 := (congrArg (fun z9 => va_P D vwCl z9 _) hq9).mp hP3
          replace hD3 := (congrArg (fun z9 => va_D _ z9) hq9).mp hD3
          clear hq9
          refine re_i (PR S, F1_42, N1_42, B1_42, O1_42, Sd1_42, Dv1_42, L1_42, nI (RC S), b2i (RC S = 60), fresh S, lost S, b2i (smokes S = true)) hx hb hr hlocks hP3 hD3 hS3 dX6_sticks_89 ?_
          exact (ans_o hcd (by simp only [hb0, hb1, hb2, hb3]))
        · refine lv_aload_n hx hb dX6_sticks_69 rfl (lv_at hl4 2 rfl) ?_
          refine lv_iload hx hb dX6_sticks_70 (lv_at hl4 0 rfl) ?_
          refine lv_aload_n hx hb dX6_sticks_72 rfl (lv_at hl4 3 rfl) ?_
          refine lv_iload hx hb dX6_sticks_73 (lv_at hl4 0 rfl) ?_
          refine cV_i (wc := [sO cy hh a kk dd b w ee qq ik] ++ (pS cy a (drwN S i) ++ (aS cy b (PR S) F1_42 N1_42 B1_42 O1_42 Sd1_42 Dv1_42 L1_42 (nI (RC S)) (b2i (RC S = 60)) (fresh S) (lost S) (b2i (smokes S = true))))) (wr := [ia cy (hh 1) 7 C, qsB cy qq, hO cy (qq 1) (qq 5) (bi 0) (si 0), hO cy (qq 2) (qq 6) (bi 1) (si 1), hO cy (qq 3) (qq 7) (bi 2) (si 2), hO cy (qq 4) (qq 8) (bi 3) (si 3), la cy (qq 5) 40 (f 0), la cy (qq 6) 40 (f 1), la cy (qq 7) 40 (stkF S (f 2) i), la cy (qq 8) 40 (f 3)]) (rest := [.int (nI i), .ref (qq 3)]) hx hb hml hown hw hG hK hP3 hD3 hS3 hA hl4 kc_X6_seenAt kw_3_119 [.int (nI i)] (c_X6_seenAt l D cy G H3.size hh a kk dd b w ee qq ik (drwN S i) (PR S) F1_42 N1_42 B1_42 O1_42 Sd1_42 Dv1_42 L1_42 (nI (RC S)) (b2i (RC S = 60)) (fresh S) (lost S) (b2i (smokes S = true)) i ((drwN_wf wf i).1) (by rw [(drwN_wf wf i).2.2]; omega)) [0, 1, 2, 3, 4, 5, 6, 7, 8, 9, 10, 12, 13, 14, 15, 16, 17, 18, 19, 20, 21, 22, 23, 24, 25, 26] [11, 27, 28, 29, 30, 31, 32, 33, 34, 35] rfl rfl rfl rfl rfl 0 rfl rfl rfl rfl rfl (Nat.le_of_ble_eq_true rfl) ⟨Nat.le_of_ble_eq_true rfl, Nat.le_of_ble_eq_true rfl⟩ dX6_sticks_75 ⟨Nat.le_of_ble_eq_true rfl, Nat.le_of_ble_eq_true rfl⟩ (fun r_75 u9 H4 locs4 hu9 hP4 hD4 hS4 => ?_)
          clear hP3 hD3 hS3 locs3 H3
          have hr_75 := hu9
          replace hP4 : va_P D vwCl ([ia cy (hh 1) 7 C, qsB cy qq, hO cy (qq 1) (qq 5) (bi 0) (si 0), hO cy (qq 2) (qq 6) (bi 1) (si 1), hO cy (qq 3) (qq 7) (bi 2) (si 2), hO cy (qq 4) (qq 8) (bi 3) (si 3), la cy (qq 5) 40 (f 0), la cy (qq 6) 40 (f 1), la cy (qq 7) 40 (stkF S (f 2) i), la cy (qq 8) 40 (f 3), sO cy hh a kk dd b w ee qq ik] ++ (pS cy a (drw (drwN S i)) ++ (aS cy b (PR S) F1_42 N1_42 B1_42 O1_42 Sd1_42 Dv1_42 L1_42 (nI (RC S)) (b2i (RC S = 60)) (fresh S) (lost S) (b2i (smokes S = true))))) H4 := hP4
          replace hD4 : va_D (va_A _ sz) ([ia cy (hh 1) 7 C, qsB cy qq, hO cy (qq 1) (qq 5) (bi 0) (si 0), hO cy (qq 2) (qq 6) (bi 1) (si 1), hO cy (qq 3) (qq 7) (bi 2) (si 2), hO cy (qq 4) (qq 8) (bi 3) (si 3), la cy (qq 5) 40 (f 0), la cy (qq 6) 40 (f 1), la cy (qq 7) 40 (stkF S (f 2) i), la cy (qq 8) 40 (f 3), sO cy hh a kk dd b w ee qq ik] ++ (pS cy a (drw (drwN S i)) ++ (aS cy b (PR S) F1_42 N1_42 B1_42 O1_42 Sd1_42 Dv1_42 L1_42 (nI (RC S)) (b2i (RC S = 60)) (fresh S) (lost S) (b2i (smokes S = true))))) := hD4
          replace hP4 := hP4.sub (ws' := [sO cy hh a kk dd b w ee qq ik] ++ (pS cy a (drw (drwN S i)) ++ ([ia cy (hh 1) 7 C] ++ (aS cy b (PR S) F1_42 N1_42 B1_42 O1_42 Sd1_42 Dv1_42 L1_42 (nI (RC S)) (b2i (RC S = 60)) (fresh S) (lost S) (b2i (smokes S = true)) ++ ([qsB cy qq, hO cy (qq 1) (qq 5) (bi 0) (si 0), hO cy (qq 2) (qq 6) (bi 1) (si 1), hO cy (qq 3) (qq 7) (bi 2) (si 2), hO cy (qq 4) (qq 8) (bi 3) (si 3), la cy (qq 5) 40 (f 0), la cy (qq 6) 40 (f 1), la cy (qq 7) 40 (stkF S (f 2) i), la cy (qq 8) 40 (f 3)]))))) [10, 11, 12, 13, 14, 15, 16, 17, 18, 19, 20, 0, 21, 22, 23, 24, 25, 26, 27, 28, 29, 30, 31, 32, 33, 34, 35, 1, 2, 3, 4, 5, 6, 7, 8, 9] rfl
          replace hD4 := hD4.sub (ws' := [sO cy hh a kk dd b w ee qq ik] ++ (pS cy a (drw (drwN S i)) ++ ([ia cy (hh 1) 7 C] ++ (aS cy b (PR S) F1_42 N1_42 B1_42 O1_42 Sd1_42 Dv1_42 L1_42 (nI (RC S)) (b2i (RC S = 60)) (fresh S) (lost S) (b2i (smokes S = true)) ++ ([qsB cy qq, hO cy (qq 1) (qq 5) (bi 0) (si 0), hO cy (qq 2) (qq 6) (bi 1) (si 1), hO cy (qq 3) (qq 7) (bi 2) (si 2), hO cy (qq 4) (qq 8) (bi 3) (si 3), la cy (qq 5) 40 (f 0), la cy (qq 6) 40 (f 1), la cy (qq 7) 40 (stkF S (f 2) i), la cy (qq 8) 40 (f 3)]))))) [10, 11, 12, 13, 14, 15, 16, 17, 18, 19, 20, 0, 21, 22, 23, 24, 25, 26, 27, 28, 29, 30, 31, 32, 33, 34, 35, 1, 2, 3, 4, 5, 6, 7, 8, 9] (by decide) rfl
          subst hr_75
          refine tp (show (seenV (drwN S i) (F1_42 i) i) = seenK S i from congrArg (fun z9 => seenV (drwN S i) z9 i) (hF_42 i (by omega))) ?_
          refine lv_i2l hx hb dX6_sticks_78 rfl ?_
          refine cV_v (wc := [hO cy (qq 3) (qq 7) (bi 2) (si 2), la cy (qq 7) 40 (stkF S (f 2) i)]) (wr := [sO cy hh a kk dd b w ee qq ik] ++ (pS cy a (drw (drwN S i)) ++ ([ia cy (hh 1) 7 C] ++ (aS cy b (PR S) F1_42 N1_42 B1_42 O1_42 Sd1_42 Dv1_42 L1_42 (nI (RC S)) (b2i (RC S = 60)) (fresh S) (lost S) (b2i (smokes S = true)) ++ ([qsB cy qq, hO cy (qq 1) (qq 5) (bi 0) (si 0), hO cy (qq 2) (qq 6) (bi 1) (si 1), hO cy (qq 4) (qq 8) (bi 3) (si 3), la cy (qq 5) 40 (f 0), la cy (qq 6) 40 (f 1), la cy (qq 8) 40 (f 3)]))))) (rest := []) hx hb hml hown hw hG hK hP4 hD4 hS4 hA hl4 kc_X2_put kw_3_132 [.int (nI i), .long ((seenK S i).toInt64)] (c_X2_put l D cy G H4.size (qq 3) (qq 7) (bi 2) (si 2) (stkF S (f 2) i) (bstN (si 2)) i ((seenK S i).toInt64) ((hso 2 (by decide)).1) (by omega) hq2) [30, 34] [0, 1, 2, 3, 4, 5, 6, 7, 8, 9, 10, 11, 12, 13, 14, 15, 16, 17, 18, 19, 20, 21, 22, 23, 24, 25, 26, 27, 28, 29, 31, 32, 33, 35] rfl rfl rfl rfl rfl 0 rfl rfl rfl rfl rfl (Nat.le_of_ble_eq_true rfl) ⟨Nat.le_of_ble_eq_true rfl, Nat.le_of_ble_eq_true rfl⟩ dX6_sticks_79 ⟨Nat.le_of_ble_eq_true rfl, Nat.le_of_ble_eq_true rfl⟩ (fun u9 H5 locs5 hu9 hP5 hD5 hS5 => ?_)
          clear hP4 hD4 hS4 locs4 H4
          replace hP5 : va_P D vwCl ([sO cy hh a kk dd b w ee qq ik] ++ (pS cy a (drw (drwN S i)) ++ ([ia cy (hh 1) 7 C] ++ (aS cy b (PR S) F1_42 N1_42 B1_42 O1_42 Sd1_42 Dv1_42 L1_42 (nI (RC S)) (b2i (RC S = 60)) (fresh S) (lost S) (b2i (smokes S = true)) ++ ([qsB cy qq, hO cy (qq 1) (qq 5) (bi 0) (si 0), hO cy (qq 2) (qq 6) (bi 1) (si 1), hO cy (qq 4) (qq 8) (bi 3) (si 3), la cy (qq 5) 40 (f 0), la cy (qq 6) 40 (f 1), la cy (qq 8) 40 (f 3), hO cy (qq 3) (qq 7) (bi 2) (si 2), la cy (qq 7) 40 (vp_updL (stkF S (f 2) i) i (nrw (bi 2) ((seenK S i).toInt64)))]))))) H5 := hP5
          replace hD5 : va_D (va_A _ sz) ([sO cy hh a kk dd b w ee qq ik] ++ (pS cy a (drw (drwN S i)) ++ ([ia cy (hh 1) 7 C] ++ (aS cy b (PR S) F1_42 N1_42 B1_42 O1_42 Sd1_42 Dv1_42 L1_42 (nI (RC S)) (b2i (RC S = 60)) (fresh S) (lost S) (b2i (smokes S = true)) ++ ([qsB cy qq, hO cy (qq 1) (qq 5) (bi 0) (si 0), hO cy (qq 2) (qq 6) (bi 1) (si 1), hO cy (qq 4) (qq 8) (bi 3) (si 3), la cy (qq 5) 40 (f 0), la cy (qq 6) 40 (f 1), la cy (qq 8) 40 (f 3), hO cy (qq 3) (qq 7) (bi 2) (si 2), la cy (qq 7) 40 (vp_updL (stkF S (f 2) i) i (nrw (bi 2) ((seenK S i).toInt64)))]))))) := hD5
          replace hP5 := hP5.sub (ws' := [sO cy hh a kk dd b w ee qq ik] ++ (pS cy a (drw (drwN S i)) ++ ([ia cy (hh 1) 7 C] ++ (aS cy b (PR S) F1_42 N1_42 B1_42 O1_42 Sd1_42 Dv1_42 L1_42 (nI (RC S)) (b2i (RC S = 60)) (fresh S) (lost S) (b2i (smokes S = true)) ++ ([qsB cy qq, hO cy (qq 1) (qq 5) (bi 0) (si 0), hO cy (qq 2) (qq 6) (bi 1) (si 1), hO cy (qq 3) (qq 7) (bi 2) (si 2), hO cy (qq 4) (qq 8) (bi 3) (si 3), la cy (qq 5) 40 (f 0), la cy (qq 6) 40 (f 1), la cy (qq 7) 40 (vp_updL (stkF S (f 2) i) i (nrw (bi 2) ((seenK S i).toInt64))), la cy (qq 8) 40 (f 3)]))))) [0, 1, 2, 3, 4, 5, 6, 7, 8, 9, 10, 11, 12, 13, 14, 15, 16, 17, 18, 19, 20, 21, 22, 23, 24, 25, 26, 27, 28, 29, 34, 30, 31, 32, 35, 33] rfl
          replace hD5 := hD5.sub (ws' := [sO cy hh a kk dd b w ee qq ik] ++ (pS cy a (drw (drwN S i)) ++ ([ia cy (hh 1) 7 C] ++ (aS cy b (PR S) F1_42 N1_42 B1_42 O1_42 Sd1_42 Dv1_42 L1_42 (nI (RC S)) (b2i (RC S = 60)) (fresh S) (lost S) (b2i (smokes S = true)) ++ ([qsB cy qq, hO cy (qq 1) (qq 5) (bi 0) (si 0), hO cy (qq 2) (qq 6) (bi 1) (si 1), hO cy (qq 3) (qq 7) (bi 2) (si 2), hO cy (qq 4) (qq 8) (bi 3) (si 3), la cy (qq 5) 40 (f 0), la cy (qq 6) 40 (f 1), la cy (qq 7) 40 (vp_updL (stkF S (f 2) i) i (nrw (bi 2) ((seenK S i).toInt64))), la cy (qq 8) 40 (f 3)]))))) [0, 1, 2, 3, 4, 5, 6, 7, 8, 9, 10, 11, 12, 13, 14, 15, 16, 17, 18, 19, 20, 21, 22, 23, 24, 25, 26, 27, 28, 29, 34, 30, 31, 32, 35, 33] (by decide) rfl
          have hq9 : ([sO cy hh a kk dd b w ee qq ik] ++ (pS cy a (drw (drwN S i)) ++ ([ia cy (hh 1) 7 C] ++ (aS cy b (PR S) F1_42 N1_42 B1_42 O1_42 Sd1_42 Dv1_42 L1_42 (nI (RC S)) (b2i (RC S = 60)) (fresh S) (lost S) (b2i (smokes S = true)) ++ ([qsB cy qq, hO cy (qq 1) (qq 5) (bi 0) (si 0), hO cy (qq 2) (qq 6) (bi 1) (si 1), hO cy (qq 3) (qq 7) (bi 2) (si 2), hO cy (qq 4) (qq 8) (bi 3) (si 3), la cy (qq 5) 40 (f 0), la cy (qq 6) 40 (f 1), la cy (qq 7) 40 (vp_updL (stkF S (f 2) i) i (nrw (bi 2) ((seenK S i).toInt64))), la cy (qq 8) 40 (f 3)]))))) = ([sO cy hh a kk dd b w ee qq ik] ++ (pS cy a (drwN S (i + 1)) ++ ([ia cy (hh 1) 7 C] ++ (aS cy b (PR S) F1_42 N1_42 B1_42 O1_42 Sd1_42 Dv1_42 L1_42 (nI (RC S)) (b2i (RC S = 60)) (fresh S) (lost S) (b2i (smokes S = true)) ++ ([qsB cy qq, hO cy (qq 1) (qq 5) (bi 0) (si 0), hO cy (qq 2) (qq 6) (bi 1) (si 1), hO cy (qq 3) (qq 7) (bi 2) (si 2), hO cy (qq 4) (qq 8) (bi 3) (si 3), la cy (qq 5) 40 (f 0), la cy (qq 6) 40 (f 1), la cy (qq 7) 40 (vp_updL (stkF S (f 2) i) i (nrw (bi 2) ((seenK S i).toInt64))), la cy (qq 8) 40 (f 3)]))))) := congrArg (fun z9 => [sO cy hh a kk dd b w ee qq ik] ++ (pS cy a z9 ++ ([ia cy (hh 1) 7 C] ++ (aS cy b (PR S) F1_42 N1_42 B1_42 O1_42 Sd1_42 Dv1_42 L1_42 (nI (RC S)) (b2i (RC S = 60)) (fresh S) (lost S) (b2i (smokes S = true)) ++ ([qsB cy qq, hO cy (qq 1) (qq 5) (bi 0) (si 0), hO cy (qq 2) (qq 6) (bi 1) (si 1), hO cy (qq 3) (qq 7) (bi 2) (si 2), hO cy (qq 4) (qq 8) (bi 3) (si 3), la cy (qq 5) 40 (f 0), la cy (qq 6) 40 (f 1), la cy (qq 7) 40 (vp_updL (stkF S (f 2) i) i (nrw (bi 2) ((seenK S i).toInt64))), la cy (qq 8) 40 (f 3)]))))) (show (drw (drwN S i)) = (drwN S (i + 1)) from rfl)
          replace hP5 := (congrArg (fun z9 => va_P D vwCl z9 _) hq9).mp hP5
          replace hD5 := (congrArg (fun z9 => va_D _ z9) hq9).mp hD5
          clear hq9
          have hq9 : ([sO cy hh a kk dd b w ee qq ik] ++ (pS cy a (drwN S (i + 1)) ++ ([ia cy (hh 1) 7 C] ++ (aS cy b (PR S) F1_42 N1_42 B1_42 O1_42 Sd1_42 Dv1_42 L1_42 (nI (RC S)) (b2i (RC S = 60)) (fresh S) (lost S) (b2i (smokes S = true)) ++ ([qsB cy qq, hO cy (qq 1) (qq 5) (bi 0) (si 0), hO cy (qq 2) (qq 6) (bi 1) (si 1), hO cy (qq 3) (qq 7) (bi 2) (si 2), hO cy (qq 4) (qq 8) (bi 3) (si 3), la cy (qq 5) 40 (f 0), la cy (qq 6) 40 (f 1), la cy (qq 7) 40 (vp_updL (stkF S (f 2) i) i (nrw (bi 2) ((seenK S i).toInt64))), la cy (qq 8) 40 (f 3)]))))) = ([sO cy hh a kk dd b w ee qq ik] ++ (pS cy a (drwN S (i + 1)) ++ ([ia cy (hh 1) 7 C] ++ (aS cy b (PR S) F1_42 N1_42 B1_42 O1_42 Sd1_42 Dv1_42 L1_42 (nI (RC S)) (b2i (RC S = 60)) (fresh S) (lost S) (b2i (smokes S = true)) ++ ([qsB cy qq, hO cy (qq 1) (qq 5) (bi 0) (si 0), hO cy (qq 2) (qq 6) (bi 1) (si 1), hO cy (qq 3) (qq 7) (bi 2) (si 2), hO cy (qq 4) (qq 8) (bi 3) (si 3), la cy (qq 5) 40 (f 0), la cy (qq 6) 40 (f 1), la cy (qq 7) 40 (stkF S (f 2) (i + 1)), la cy (qq 8) 40 (f 3)]))))) := congrArg (fun z9 => [sO cy hh a kk dd b w ee qq ik] ++ (pS cy a (drwN S (i + 1)) ++ ([ia cy (hh 1) 7 C] ++ (aS cy b (PR S) F1_42 N1_42 B1_42 O1_42 Sd1_42 Dv1_42 L1_42 (nI (RC S)) (b2i (RC S = 60)) (fresh S) (lost S) (b2i (smokes S = true)) ++ ([qsB cy qq, hO cy (qq 1) (qq 5) (bi 0) (si 0), hO cy (qq 2) (qq 6) (bi 1) (si 1), hO cy (qq 3) (qq 7) (bi 2) (si 2), hO cy (qq 4) (qq 8) (bi 3) (si 3), la cy (qq 5) 40 (f 0), la cy (qq 6) 40 (f 1), la cy (qq 7) 40 z9, la cy (qq 8) 40 (f 3)]))))) (show (vp_updL (stkF S (f 2) i) i (nrw (bi 2) ((seenK S i).toInt64))) = (stkF S (f 2) (i + 1)) from congrArg (vp_updL (stkF S (f 2) i) i) (nrw_small (seenV_rng _ _ _)))
          replace hP5 := (congrArg (fun z9 => va_P D vwCl z9 _) hq9).mp hP5
          replace hD5 := (congrArg (fun z9 => va_D _ z9) hq9).mp hD5
          clear hq9
          refine lv_iinc (v := nI (i + 1)) (lv' := [(4, .int (nI (i + 1))), (3, .int (nI (minN (bstN (si 2)) (gcN S)))), (2, .ref (qq 3)), (0, .ref (hh 0)), (1, .int 2)]) hx hb dX6_sticks_82 hl4 (k := 0) rfl (nI_inc _) (by decide) rfl (fun ls5 hl5 => ?_)
          clear hl4 ls4
          refine lv_goto (tgt := 63) hx hb dX6_sticks_85 (by decide) ?_
          exact ih_63 (i + 1) (by first | omega | assumption | rfl | simp_all) (by (try dsimp only); omega) H5 locs5 ls5 hP5 hD5 hS5 (lv_sub hl5 [0, 1, 2, 3, 4] rfl)
      · replace hP1 : va_P D vwCl ([sO cy hh a kk dd b w ee qq ik] ++ (pS cy a S ++ ([ia cy (hh 1) 7 C] ++ (aS cy b P F N B O Sd Dv L rc re fr lo sm ++ (shB cy qq bi si f))))) H1 := hP1
        replace hD1 : va_D (va_A _ sz) ([sO cy hh a kk dd b w ee qq ik] ++ (pS cy a S ++ ([ia cy (hh 1) 7 C] ++ (aS cy b P F N B O Sd Dv L rc re fr lo sm ++ (shB cy qq bi si f))))) := hD1
        refine lv_aload_n hx hb dX6_sticks_28 rfl (lv_at hl1 1 rfl) ?_
        refine lv_iconst (v := 5) hx hb dX6_sticks_29 (by decide) ?_
        refine cV_i (wc := [sO cy hh a kk dd b w ee qq ik, ia cy (hh 1) 7 C]) (wr := pS cy a S ++ (aS cy b P F N B O Sd Dv L rc re fr lo sm ++ (shB cy qq bi si f))) (rest := []) hx hb hml hown hw hG hK hP1 hD1 hS1 hA hl1 kc_X6_find kw_2_59 [.int 5] (c_X6_find l D cy G H1.size hh a kk dd b w ee qq ik C 5 (by first | omega | assumption)) [0, 11] [1, 2, 3, 4, 5, 6, 7, 8, 9, 10, 12, 13, 14, 15, 16, 17, 18, 19, 20, 21, 22, 23, 24, 25, 26, 27, 28, 29, 30, 31, 32, 33, 34, 35] rfl rfl rfl rfl rfl 0 rfl rfl rfl rfl rfl (Nat.le_of_ble_eq_true rfl) ⟨Nat.le_of_ble_eq_true rfl, Nat.le_of_ble_eq_true rfl⟩ dX6_sticks_30 ⟨Nat.le_of_ble_eq_true rfl, Nat.le_of_ble_eq_true rfl⟩ (fun r_30 u9 H2 locs2 hu9 hP2 hD2 hS2 => ?_)
        clear hP1 hD1 hS1 locs1 H1
        have hr_30 := hu9
        replace hP2 : va_P D vwCl (pS cy a S ++ (aS cy b P F N B O Sd Dv L rc re fr lo sm ++ (shB cy qq bi si f ++ ([sO cy hh a kk dd b w ee qq ik, ia cy (hh 1) 7 (upd C 5 (C 5 + 1))])))) H2 := hP2
        replace hD2 : va_D (va_A _ sz) (pS cy a S ++ (aS cy b P F N B O Sd Dv L rc re fr lo sm ++ (shB cy qq bi si f ++ ([sO cy hh a kk dd b w ee qq ik, ia cy (hh 1) 7 (upd C 5 (C 5 + 1))])))) := hD2
        replace hP2 := hP2.sub (ws' := [sO cy hh a kk dd b w ee qq ik] ++ (pS cy a S ++ ([ia cy (hh 1) 7 (upd C 5 (C 5 + 1))] ++ (aS cy b P F N B O Sd Dv L rc re fr lo sm ++ (shB cy qq bi si f))))) [34, 0, 1, 2, 3, 4, 5, 6, 7, 8, 9, 35, 10, 11, 12, 13, 14, 15, 16, 17, 18, 19, 20, 21, 22, 23, 24, 25, 26, 27, 28, 29, 30, 31, 32, 33] rfl
        replace hD2 := hD2.sub (ws' := [sO cy hh a kk dd b w ee qq ik] ++ (pS cy a S ++ ([ia cy (hh 1) 7 (upd C 5 (C 5 + 1))] ++ (aS cy b P F N B O Sd Dv L rc re fr lo sm ++ (shB cy qq bi si f))))) [34, 0, 1, 2, 3, 4, 5, 6, 7, 8, 9, 35, 10, 11, 12, 13, 14, 15, 16, 17, 18, 19, 20, 21, 22, 23, 24, 25, 26, 27, 28, 29, 30, 31, 32, 33] (by decide) rfl
        subst hr_30
        have hcd : cSh bi 2 = 5 := by unfold cSh; clear hx hb hml hown hr hlocks hw hsz hA hG hK hP2 hD2 hS2 hl1; grind
        have hq9 : ([sO cy hh a kk dd b w ee qq ik] ++ (pS cy a S ++ ([ia cy (hh 1) 7 (upd C 5 (C 5 + 1))] ++ (aS cy b P F N B O Sd Dv L rc re fr lo sm ++ (shB cy qq bi si f))))) = ([sO cy hh a kk dd b w ee qq ik] ++ (pS cy a S ++ ([ia cy (hh 1) 7 (fnd C (cSh bi 2))] ++ (aS cy b P F N B O Sd Dv L rc re fr lo sm ++ (shB cy qq bi si f))))) := congrArg (fun z9 => [sO cy hh a kk dd b w ee qq ik] ++ (pS cy a S ++ ([ia cy (hh 1) 7 z9] ++ (aS cy b P F N B O Sd Dv L rc re fr lo sm ++ (shB cy qq bi si f))))) (show (upd C 5 (C 5 + 1)) = (fnd C (cSh bi 2)) from fnd_f hcd (by decide))
        replace hP2 := (congrArg (fun z9 => va_P D vwCl z9 _) hq9).mp hP2
        replace hD2 := (congrArg (fun z9 => va_D _ z9) hq9).mp hD2
        clear hq9
        have hq9 : ([sO cy hh a kk dd b w ee qq ik] ++ (pS cy a S ++ ([ia cy (hh 1) 7 (fnd C (cSh bi 2))] ++ (aS cy b P F N B O Sd Dv L rc re fr lo sm ++ (shB cy qq bi si f))))) = ([sO cy hh a kk dd b w ee qq ik] ++ (pS cy a (if cSh bi 2 = 7 then drwN S (minN (bstN (si (bstN 2))) (gcN S)) else S) ++ ([ia cy (hh 1) 7 (fnd C (cSh bi 2))] ++ (aS cy b P F N B O Sd Dv L rc re fr lo sm ++ (shB cy qq bi si f))))) := congrArg (fun z9 => [sO cy hh a kk dd b w ee qq ik] ++ (pS cy a z9 ++ ([ia cy (hh 1) 7 (fnd C (cSh bi 2))] ++ (aS cy b P F N B O Sd Dv L rc re fr lo sm ++ (shB cy qq bi si f))))) (show S = (if cSh bi 2 = 7 then drwN S (minN (bstN (si (bstN 2))) (gcN S)) else S) from (if_neg (fun z9 => absurd (hcd.symm.trans z9) (by decide))).symm)
        replace hP2 := (congrArg (fun z9 => va_P D vwCl z9 _) hq9).mp hP2
        replace hD2 := (congrArg (fun z9 => va_D _ z9) hq9).mp hD2
        clear hq9
        have hq9 : ([sO cy hh a kk dd b w ee qq ik] ++ (pS cy a (if cSh bi 2 = 7 then drwN S (minN (bstN (si (bstN 2))) (gcN S)) else S) ++ ([ia cy (hh 1) 7 (fnd C (cSh bi 2))] ++ (aS cy b P F N B O Sd Dv L rc re fr lo sm ++ (shB cy qq bi si f))))) = ([sO cy hh a kk dd b w ee qq ik] ++ (pS cy a (if cSh bi 2 = 7 then drwN S (minN (bstN (si (bstN 2))) (gcN S)) else S) ++ ([ia cy (hh 1) 7 (fnd C (cSh bi 2))] ++ (aS cy b P F N B O Sd Dv L rc re fr lo sm ++ (shB cy qq bi si (if cSh bi 2 = 7 then va_up f (bstN 2) (stkF S (f (bstN 2)) (minN (bstN (si (bstN 2))) (gcN S))) else f)))))) := congrArg (fun z9 => [sO cy hh a kk dd b w ee qq ik] ++ (pS cy a (if cSh bi 2 = 7 then drwN S (minN (bstN (si (bstN 2))) (gcN S)) else S) ++ ([ia cy (hh 1) 7 (fnd C (cSh bi 2))] ++ (aS cy b P F N B O Sd Dv L rc re fr lo sm ++ (shB cy qq bi si z9))))) (show f = (if cSh bi 2 = 7 then va_up f (bstN 2) (stkF S (f (bstN 2)) (minN (bstN (si (bstN 2))) (gcN S))) else f) from (if_neg (fun z9 => absurd (hcd.symm.trans z9) (by decide))).symm)
        replace hP2 := (congrArg (fun z9 => va_P D vwCl z9 _) hq9).mp hP2
        replace hD2 := (congrArg (fun z9 => va_D _ z9) hq9).mp hD2
        clear hq9
        refine re_i (P, F, N, B, O, Sd, Dv, L, rc, re, fr, lo, sm) hx hb hr hlocks hP2 hD2 hS2 dX6_sticks_33 ?_
        exact (ans_f hcd (by decide) rfl)
    · replace hP1 : va_P D vwCl ([sO cy hh a kk dd b w ee qq ik] ++ (pS cy a S ++ ([ia cy (hh 1) 7 C] ++ (aS cy b P F N B O Sd Dv L rc re fr lo sm ++ ([qsB cy qq, hO cy (qq 1) (qq 5) (bi 0) (si 0), hO cy (qq 2) (qq 6) (bi 1) (si 1), hO cy (qq 3) (qq 7) (bi 2) (si 2), hO cy (qq 4) (qq 8) (bi 3) (si 3), la cy (qq 5) 40 (f 0), la cy (qq 6) 40 (f 1), la cy (qq 7) 40 (f 2), la cy (qq 8) 40 (f 3)]))))) H1 := hP1
      replace hD1 : va_D (va_A _ sz) ([sO cy hh a kk dd b w ee qq ik] ++ (pS cy a S ++ ([ia cy (hh 1) 7 C] ++ (aS cy b P F N B O Sd Dv L rc re fr lo sm ++ ([qsB cy qq, hO cy (qq 1) (qq 5) (bi 0) (si 0), hO cy (qq 2) (qq 6) (bi 1) (si 1), hO cy (qq 3) (qq 7) (bi 2) (si 2), hO cy (qq 4) (qq 8) (bi 3) (si 3), la cy (qq 5) 40 (f 0), la cy (qq 6) 40 (f 1), la cy (qq 7) 40 (f 2), la cy (qq 8) 40 (f 3)]))))) := hD1
      refine lv_aload_n hx hb dX6_sticks_14 rfl (lv_at hl0 0 rfl) ?_
      refine va_get (D := D) (ci := 6) (v := .ref (qq 0)) (C := RX6) (T := TX6) (N := 9) hx hb hw iX6 hown hK hP1 0 rfl rfl 7 (by decide) (hw _ kw_2_34) (fun _ h9 => h9) rfl dX6_sticks_15 ?_
      refine lv_iload_n hx hb dX6_sticks_18 rfl (lv_at hl0 1 rfl) ?_
      refine ald_q hx hb hK hP1 27 3 rfl rfl rfl 3 rfl (by first | omega | assumption) (by decide) (rfl) dX6_sticks_19 ?_
      refine lv_astore_n (lv' := [(2, .ref (qq 4)), (0, .ref (hh 0)), (1, .int 3)]) hx hb dX6_sticks_20 rfl hl0 (by decide) rfl (fun ls1 hl1 => ?_)
      clear hl0 ls0
      refine lv_aload_n hx hb dX6_sticks_21 rfl (lv_at hl1 0 rfl) ?_
      refine va_get (D := D) (ci := 2) (v := .int (bi 3)) (C := RX2) (T := TX2) (N := 3) hx hb hw iX2 hown hK hP1 31 rfl rfl 1 (by decide) (hw _ kw_2_16) (fun _ h9 => h9) rfl dX6_sticks_22 ?_
      refine lv_if_ne (tgt := 34) hx hb dX6_sticks_25 (by decide) (fun c_25 => ?_) (fun c_25 => ?_)
      · refine lv_aload_n hx hb dX6_sticks_34 rfl (lv_at hl1 1 rfl) ?_
        refine va_get (D := D) (ci := 6) (v := .ref (b 0)) (C := RX6) (T := TX6) (N := 9) hx hb hw iX6 hown hK hP1 0 rfl rfl 4 (by decide) (hw _ kw_2_31) (fun _ h9 => h9) rfl dX6_sticks_35 ?_
        refine lv_aload_n hx hb dX6_sticks_38 rfl (lv_at hl1 1 rfl) ?_
        refine va_get (D := D) (ci := 6) (v := .ref (a 0)) (C := RX6) (T := TX6) (N := 9) hx hb hw iX6 hown hK hP1 0 rfl rfl 0 (by decide) (hw _ kw_2_27) (fun _ h9 => h9) rfl dX6_sticks_39 ?_
        refine cV_v (wc := aS cy b P F N B O Sd Dv L rc re fr lo sm ++ (pS cy a S)) (wr := [sO cy hh a kk dd b w ee qq ik, ia cy (hh 1) 7 C, qsB cy qq, hO cy (qq 1) (qq 5) (bi 0) (si 0), hO cy (qq 2) (qq 6) (bi 1) (si 1), hO cy (qq 3) (qq 7) (bi 2) (si 2), hO cy (qq 4) (qq 8) (bi 3) (si 3), la cy (qq 5) 40 (f 0), la cy (qq 6) 40 (f 1), la cy (qq 7) 40 (f 2), la cy (qq 8) 40 (f 3)]) (rest := []) hx hb hml hown hw hG hK hP1 hD1 hS1 hA hl1 kc_X0_settle kw_3_52 [.ref (a 0)] (c_X0_settle l D cy G H1.size b P F N B O Sd Dv L rc re fr lo sm a S (by first | omega | assumption)) [12, 13, 14, 15, 16, 17, 18, 19, 20, 21, 22, 23, 24, 25, 26, 1, 2, 3, 4, 5, 6, 7, 8, 9, 10] [0, 11, 27, 28, 29, 30, 31, 32, 33, 34, 35] rfl rfl rfl rfl rfl 0 rfl rfl rfl rfl rfl (Nat.le_of_ble_eq_true rfl) ⟨Nat.le_of_ble_eq_true rfl, Nat.le_of_ble_eq_true rfl⟩ dX6_sticks_42 ⟨Nat.le_of_ble_eq_true rfl, Nat.le_of_ble_eq_true rfl⟩ (fun u9 H2 locs2 hu9 hP2 hD2 hS2 => ?_)
        clear hP1 hD1 hS1 locs1 H1
        obtain ⟨F1_42, N1_42, B1_42, O1_42, Sd1_42, Dv1_42, L1_42⟩ := u9
        have hF_42 := hu9
        replace hF_42 : ∀ g, g < gcN S → F1_42 g = flow S (PR S) g := hF_42
        replace hP2 : va_P D vwCl ([sO cy hh a kk dd b w ee qq ik, ia cy (hh 1) 7 C, qsB cy qq, hO cy (qq 1) (qq 5) (bi 0) (si 0), hO cy (qq 2) (qq 6) (bi 1) (si 1), hO cy (qq 3) (qq 7) (bi 2) (si 2), hO cy (qq 4) (qq 8) (bi 3) (si 3), la cy (qq 5) 40 (f 0), la cy (qq 6) 40 (f 1), la cy (qq 7) 40 (f 2), la cy (qq 8) 40 (f 3)] ++ (aS cy b (PR S) F1_42 N1_42 B1_42 O1_42 Sd1_42 Dv1_42 L1_42 (nI (RC S)) (b2i (RC S = 60)) (fresh S) (lost S) (b2i (smokes S = true)) ++ (pS cy a S))) H2 := hP2
        replace hD2 : va_D (va_A _ sz) ([sO cy hh a kk dd b w ee qq ik, ia cy (hh 1) 7 C, qsB cy qq, hO cy (qq 1) (qq 5) (bi 0) (si 0), hO cy (qq 2) (qq 6) (bi 1) (si 1), hO cy (qq 3) (qq 7) (bi 2) (si 2), hO cy (qq 4) (qq 8) (bi 3) (si 3), la cy (qq 5) 40 (f 0), la cy (qq 6) 40 (f 1), la cy (qq 7) 40 (f 2), la cy (qq 8) 40 (f 3)] ++ (aS cy b (PR S) F1_42 N1_42 B1_42 O1_42 Sd1_42 Dv1_42 L1_42 (nI (RC S)) (b2i (RC S = 60)) (fresh S) (lost S) (b2i (smokes S = true)) ++ (pS cy a S))) := hD2
        replace hP2 := hP2.sub (ws' := [sO cy hh a kk dd b w ee qq ik] ++ (pS cy a S ++ ([ia cy (hh 1) 7 C] ++ (aS cy b (PR S) F1_42 N1_42 B1_42 O1_42 Sd1_42 Dv1_42 L1_42 (nI (RC S)) (b2i (RC S = 60)) (fresh S) (lost S) (b2i (smokes S = true)) ++ ([qsB cy qq, hO cy (qq 1) (qq 5) (bi 0) (si 0), hO cy (qq 2) (qq 6) (bi 1) (si 1), hO cy (qq 3) (qq 7) (bi 2) (si 2), hO cy (qq 4) (qq 8) (bi 3) (si 3), la cy (qq 5) 40 (f 0), la cy (qq 6) 40 (f 1), la cy (qq 7) 40 (f 2), la cy (qq 8) 40 (f 3)]))))) [0, 26, 27, 28, 29, 30, 31, 32, 33, 34, 35, 1, 11, 12, 13, 14, 15, 16, 17, 18, 19, 20, 21, 22, 23, 24, 25, 2, 3, 4, 5, 6, 7, 8, 9, 10] rfl
        replace hD2 := hD2.sub (ws' := [sO cy hh a kk dd b w ee qq ik] ++ (pS cy a S ++ ([ia cy (hh 1) 7 C] ++ (aS cy b (PR S) F1_42 N1_42 B1_42 O1_42 Sd1_42 Dv1_42 L1_42 (nI (RC S)) (b2i (RC S = 60)) (fresh S) (lost S) (b2i (smokes S = true)) ++ ([qsB cy qq, hO cy (qq 1) (qq 5) (bi 0) (si 0), hO cy (qq 2) (qq 6) (bi 1) (si 1), hO cy (qq 3) (qq 7) (bi 2) (si 2), hO cy (qq 4) (qq 8) (bi 3) (si 3), la cy (qq 5) 40 (f 0), la cy (qq 6) 40 (f 1), la cy (qq 7) 40 (f 2), la cy (qq 8) 40 (f 3)]))))) [0, 26, 27, 28, 29, 30, 31, 32, 33, 34, 35, 1, 11, 12, 13, 14, 15, 16, 17, 18, 19, 20, 21, 22, 23, 24, 25, 2, 3, 4, 5, 6, 7, 8, 9, 10] (by decide) rfl
        refine lv_aload_n hx hb dX6_sticks_45 rfl (lv_at hl1 1 rfl) ?_
        refine va_get (D := D) (ci := 6) (v := .ref (a 0)) (C := RX6) (T := TX6) (N := 9) hx hb hw iX6 hown hK hP2 0 rfl rfl 0 (by decide) (hw _ kw_2_27) (fun _ h9 => h9) rfl dX6_sticks_46 ?_
        refine va_get (D := D) (ci := 1) (v := .int (S 1)) (C := RX1) (T := TX1) (N := 12) hx hb hw iX1 hown hK hP2 1 rfl rfl 1 (by decide) (hw _ kw_1_35) (fun _ h9 => h9) rfl dX6_sticks_49 ?_
        refine tp (show (S 1) = nI (gcN S) from wf_g wf) ?_
        refine lv_aload_n hx hb dX6_sticks_52 rfl (lv_at hl1 0 rfl) ?_
        refine va_get (D := D) (ci := 2) (v := .int (si 3)) (C := RX2) (T := TX2) (N := 3) hx hb hw iX2 hown hK hP2 31 rfl rfl 2 (by decide) (hw _ kw_2_18) (fun _ h9 => h9) rfl dX6_sticks_53 ?_
        refine tp (show (si 3) = nI (bstN (si 3)) from (hso 3 (by decide)).1) ?_
        refine va_mmin hx hb (by rw [hml]; exact hl1.1.symm) hown (hw _ kw_3_98) (hw _ kw_2_179) (hw _ kw_1_10) (hw _ kwm_min) (Nat.le_of_ble_eq_true rfl) (Nat.le_of_ble_eq_true rfl) (Nat.le_of_ble_eq_true rfl) (Nat.le_of_ble_eq_true rfl) dX6_sticks_56 ?_
        refine tp (show (if (nI (bstN (si 3))) < (nI (gcN S)) then (nI (bstN (si 3))) else (nI (gcN S))) = nI (minN (bstN (si 3)) (gcN S)) from min_nI (by omega) (by omega)) ?_
        refine lv_istore_n (lv' := [(3, .int (nI (minN (bstN (si 3)) (gcN S)))), (2, .ref (qq 4)), (0, .ref (hh 0)), (1, .int 3)]) hx hb dX6_sticks_59 rfl hl1 (by decide) rfl (fun ls2 hl2 => ?_)
        clear hl1 ls1
        have hmn := minN_l (bstN (si 3)) (gcN S)
        refine lv_iconst (v := 0) hx hb dX6_sticks_60 (by decide) ?_
        refine lv_istore (lv' := [(4, .int 0), (3, .int (nI (minN (bstN (si 3)) (gcN S)))), (2, .ref (qq 4)), (0, .ref (hh 0)), (1, .int 3)]) hx hb dX6_sticks_61 hl2 (by decide) rfl (fun ls3 hl3 => ?_)
        clear hl2 ls2
        have hq9 : ([sO cy hh a kk dd b w ee qq ik] ++ (pS cy a S ++ ([ia cy (hh 1) 7 C] ++ (aS cy b (PR S) F1_42 N1_42 B1_42 O1_42 Sd1_42 Dv1_42 L1_42 (nI (RC S)) (b2i (RC S = 60)) (fresh S) (lost S) (b2i (smokes S = true)) ++ ([qsB cy qq, hO cy (qq 1) (qq 5) (bi 0) (si 0), hO cy (qq 2) (qq 6) (bi 1) (si 1), hO cy (qq 3) (qq 7) (bi 2) (si 2), hO cy (qq 4) (qq 8) (bi 3) (si 3), la cy (qq 5) 40 (f 0), la cy (qq 6) 40 (f 1), la cy (qq 7) 40 (f 2), la cy (qq 8) 40 (f 3)]))))) = ([sO cy hh a kk dd b w ee qq ik] ++ (pS cy a (drwN S 0) ++ ([ia cy (hh 1) 7 C] ++ (aS cy b (PR S) F1_42 N1_42 B1_42 O1_42 Sd1_42 Dv1_42 L1_42 (nI (RC S)) (b2i (RC S = 60)) (fresh S) (lost S) (b2i (smokes S = true)) ++ ([qsB cy qq, hO cy (qq 1) (qq 5) (bi 0) (si 0), hO cy (qq 2) (qq 6) (bi 1) (si 1), hO cy (qq 3) (qq 7) (bi 2) (si 2), hO cy (qq 4) (qq 8) (bi 3) (si 3), la cy (qq 5) 40 (f 0), la cy (qq 6) 40 (f 1), la cy (qq 7) 40 (f 2), la cy (qq 8) 40 (f 3)]))))) := congrArg (fun z9 => [sO cy hh a kk dd b w ee qq ik] ++ (pS cy a z9 ++ ([ia cy (hh 1) 7 C] ++ (aS cy b (PR S) F1_42 N1_42 B1_42 O1_42 Sd1_42 Dv1_42 L1_42 (nI (RC S)) (b2i (RC S = 60)) (fresh S) (lost S) (b2i (smokes S = true)) ++ ([qsB cy qq, hO cy (qq 1) (qq 5) (bi 0) (si 0), hO cy (qq 2) (qq 6) (bi 1) (si 1), hO cy (qq 3) (qq 7) (bi 2) (si 2), hO cy (qq 4) (qq 8) (bi 3) (si 3), la cy (qq 5) 40 (f 0), la cy (qq 6) 40 (f 1), la cy (qq 7) 40 (f 2), la cy (qq 8) 40 (f 3)]))))) (show S = (drwN S 0) from rfl)
        replace hP2 := (congrArg (fun z9 => va_P D vwCl z9 _) hq9).mp hP2
        replace hD2 := (congrArg (fun z9 => va_D _ z9) hq9).mp hD2
        clear hq9
        have hq9 : ([sO cy hh a kk dd b w ee qq ik] ++ (pS cy a (drwN S 0) ++ ([ia cy (hh 1) 7 C] ++ (aS cy b (PR S) F1_42 N1_42 B1_42 O1_42 Sd1_42 Dv1_42 L1_42 (nI (RC S)) (b2i (RC S = 60)) (fresh S) (lost S) (b2i (smokes S = true)) ++ ([qsB cy qq, hO cy (qq 1) (qq 5) (bi 0) (si 0), hO cy (qq 2) (qq 6) (bi 1) (si 1), hO cy (qq 3) (qq 7) (bi 2) (si 2), hO cy (qq 4) (qq 8) (bi 3) (si 3), la cy (qq 5) 40 (f 0), la cy (qq 6) 40 (f 1), la cy (qq 7) 40 (f 2), la cy (qq 8) 40 (f 3)]))))) = ([sO cy hh a kk dd b w ee qq ik] ++ (pS cy a (drwN S 0) ++ ([ia cy (hh 1) 7 C] ++ (aS cy b (PR S) F1_42 N1_42 B1_42 O1_42 Sd1_42 Dv1_42 L1_42 (nI (RC S)) (b2i (RC S = 60)) (fresh S) (lost S) (b2i (smokes S = true)) ++ ([qsB cy qq, hO cy (qq 1) (qq 5) (bi 0) (si 0), hO cy (qq 2) (qq 6) (bi 1) (si 1), hO cy (qq 3) (qq 7) (bi 2) (si 2), hO cy (qq 4) (qq 8) (bi 3) (si 3), la cy (qq 5) 40 (f 0), la cy (qq 6) 40 (f 1), la cy (qq 7) 40 (f 2), la cy (qq 8) 40 (stkF S (f 3) 0)]))))) := congrArg (fun z9 => [sO cy hh a kk dd b w ee qq ik] ++ (pS cy a (drwN S 0) ++ ([ia cy (hh 1) 7 C] ++ (aS cy b (PR S) F1_42 N1_42 B1_42 O1_42 Sd1_42 Dv1_42 L1_42 (nI (RC S)) (b2i (RC S = 60)) (fresh S) (lost S) (b2i (smokes S = true)) ++ ([qsB cy qq, hO cy (qq 1) (qq 5) (bi 0) (si 0), hO cy (qq 2) (qq 6) (bi 1) (si 1), hO cy (qq 3) (qq 7) (bi 2) (si 2), hO cy (qq 4) (qq 8) (bi 3) (si 3), la cy (qq 5) 40 (f 0), la cy (qq 6) 40 (f 1), la cy (qq 7) 40 (f 2), la cy (qq 8) 40 z9]))))) (show (f 3) = (stkF S (f 3) 0) from rfl)
        replace hP2 := (congrArg (fun z9 => va_P D vwCl z9 _) hq9).mp hP2
        replace hD2 := (congrArg (fun z9 => va_D _ z9) hq9).mp hD2
        clear hq9
        refine wlp (ι := Nat) (nL := 5) (fun x9 => (x9 ≤ minN (bstN (si 3)) (gcN S))) (fun x9 => [sO cy hh a kk dd b w ee qq ik] ++ (pS cy a (drwN S x9) ++ ([ia cy (hh 1) 7 C] ++ (aS cy b (PR S) F1_42 N1_42 B1_42 O1_42 Sd1_42 Dv1_42 L1_42 (nI (RC S)) (b2i (RC S = 60)) (fresh S) (lost S) (b2i (smokes S = true)) ++ ([qsB cy qq, hO cy (qq 1) (qq 5) (bi 0) (si 0), hO cy (qq 2) (qq 6) (bi 1) (si 1), hO cy (qq 3) (qq 7) (bi 2) (si 2), hO cy (qq 4) (qq 8) (bi 3) (si 3), la cy (qq 5) 40 (f 0), la cy (qq 6) 40 (f 1), la cy (qq 7) 40 (f 2), la cy (qq 8) 40 (stkF S (f 3) x9)]))))) (fun x9 => [(4, .int (nI x9)), (3, .int (nI (minN (bstN (si 3)) (gcN S)))), (2, .ref (qq 4)), (0, .ref (hh 0)), (1, .int 3)]) (fun x9 => []) (fun x9 => minN (bstN (si 3)) (gcN S) - x9) 63 ?_ 0 (by first | omega | assumption | rfl | simp_all) rfl hP2 hD2 hS2 (lv_sub hl3 [0, 1, 2, 3, 4] rfl)
        clear hP2 hD2 hS2 locs2 H2 hl3 ls3
        intro x9 hI ih_63 H3 locs3 ls4 hP3 hD3 hS3 hl4
        obtain ⟨i, rfl⟩ : ∃ z9, z9 = x9 := ⟨_, rfl⟩
        have hi := hI
        replace hi : i ≤ minN (bstN (si 3)) (gcN S) := hi
        replace hP3 : va_P D vwCl ([sO cy hh a kk dd b w ee qq ik] ++ (pS cy a (drwN S i) ++ ([ia cy (hh 1) 7 C] ++ (aS cy b (PR S) F1_42 N1_42 B1_42 O1_42 Sd1_42 Dv1_42 L1_42 (nI (RC S)) (b2i (RC S = 60)) (fresh S) (lost S) (b2i (smokes S = true)) ++ ([qsB cy qq, hO cy (qq 1) (qq 5) (bi 0) (si 0), hO cy (qq 2) (qq 6) (bi 1) (si 1), hO cy (qq 3) (qq 7) (bi 2) (si 2), hO cy (qq 4) (qq 8) (bi 3) (si 3), la cy (qq 5) 40 (f 0), la cy (qq 6) 40 (f 1), la cy (qq 7) 40 (f 2), la cy (qq 8) 40 (stkF S (f 3) i)]))))) H3 := hP3
        replace hD3 : va_D (va_A _ sz) ([sO cy hh a kk dd b w ee qq ik] ++ (pS cy a (drwN S i) ++ ([ia cy (hh 1) 7 C] ++ (aS cy b (PR S) F1_42 N1_42 B1_42 O1_42 Sd1_42 Dv1_42 L1_42 (nI (RC S)) (b2i (RC S = 60)) (fresh S) (lost S) (b2i (smokes S = true)) ++ ([qsB cy qq, hO cy (qq 1) (qq 5) (bi 0) (si 0), hO cy (qq 2) (qq 6) (bi 1) (si 1), hO cy (qq 3) (qq 7) (bi 2) (si 2), hO cy (qq 4) (qq 8) (bi 3) (si 3), la cy (qq 5) 40 (f 0), la cy (qq 6) 40 (f 1), la cy (qq 7) 40 (f 2), la cy (qq 8) 40 (stkF S (f 3) i)]))))) := hD3
        replace hl4 : lv_has ls4 5 [(4, .int (nI i)), (3, .int (nI (minN (bstN (si 3)) (gcN S)))), (2, .ref (qq 4)), (0, .ref (hh 0)), (1, .int 3)] := hl4
        show W p l e _ s m _ below meth c _ _ _ _ _ (F0 m 63 ls4 [])
        refine lv_iload hx hb dX6_sticks_63 (lv_at hl4 0 rfl) ?_
        refine lv_iload_n hx hb dX6_sticks_65 rfl (lv_at hl4 1 rfl) ?_
        refine ln_ge (tgt := 88) i (minN (bstN (si 3)) (gcN S)) rfl rfl (by omega) (by omega) hx hb dX6_sticks_66 (by decide) (fun c_66 => ?_) (fun c_66 => ?_)
        · have hie : i = minN (bstN (si 3)) (gcN S) := (by omega)
          have hq9 : ([sO cy hh a kk dd b w ee qq ik] ++ (pS cy a (drwN S i) ++ ([ia cy (hh 1) 7 C] ++ (aS cy b (PR S) F1_42 N1_42 B1_42 O1_42 Sd1_42 Dv1_42 L1_42 (nI (RC S)) (b2i (RC S = 60)) (fresh S) (lost S) (b2i (smokes S = true)) ++ ([qsB cy qq, hO cy (qq 1) (qq 5) (bi 0) (si 0), hO cy (qq 2) (qq 6) (bi 1) (si 1), hO cy (qq 3) (qq 7) (bi 2) (si 2), hO cy (qq 4) (qq 8) (bi 3) (si 3), la cy (qq 5) 40 (f 0), la cy (qq 6) 40 (f 1), la cy (qq 7) 40 (f 2), la cy (qq 8) 40 (stkF S (f 3) i)]))))) = ([sO cy hh a kk dd b w ee qq ik] ++ (pS cy a (drwN S (minN (bstN (si 3)) (gcN S))) ++ ([ia cy (hh 1) 7 C] ++ (aS cy b (PR S) F1_42 N1_42 B1_42 O1_42 Sd1_42 Dv1_42 L1_42 (nI (RC S)) (b2i (RC S = 60)) (fresh S) (lost S) (b2i (smokes S = true)) ++ ([qsB cy qq, hO cy (qq 1) (qq 5) (bi 0) (si 0), hO cy (qq 2) (qq 6) (bi 1) (si 1), hO cy (qq 3) (qq 7) (bi 2) (si 2), hO cy (qq 4) (qq 8) (bi 3) (si 3), la cy (qq 5) 40 (f 0), la cy (qq 6) 40 (f 1), la cy (qq 7) 40 (f 2), la cy (qq 8) 40 (stkF S (f 3) i)]))))) := congrArg (fun z9 => [sO cy hh a kk dd b w ee qq ik] ++ (pS cy a z9 ++ ([ia cy (hh 1) 7 C] ++ (aS cy b (PR S) F1_42 N1_42 B1_42 O1_42 Sd1_42 Dv1_42 L1_42 (nI (RC S)) (b2i (RC S = 60)) (fresh S) (lost S) (b2i (smokes S = true)) ++ ([qsB cy qq, hO cy (qq 1) (qq 5) (bi 0) (si 0), hO cy (qq 2) (qq 6) (bi 1) (si 1), hO cy (qq 3) (qq 7) (bi 2) (si 2), hO cy (qq 4) (qq 8) (bi 3) (si 3), la cy (qq 5) 40 (f 0), la cy (qq 6) 40 (f 1), la cy (qq 7) 40 (f 2), la cy (qq 8) 40 (stkF S (f 3) i)]))))) (show (drwN S i) = (drwN S (minN (bstN (si 3)) (gcN S))) from by rw [hie])
          replace hP3 := (congrArg (fun z9 => va_P D vwCl z9 _) hq9).mp hP3
          replace hD3 := (congrArg (fun z9 => va_D _ z9) hq9).mp hD3
          clear hq9
          have hq9 : ([sO cy hh a kk dd b w ee qq ik] ++ (pS cy a (drwN S (minN (bstN (si 3)) (gcN S))) ++ ([ia cy (hh 1) 7 C] ++ (aS cy b (PR S) F1_42 N1_42 B1_42 O1_42 Sd1_42 Dv1_42 L1_42 (nI (RC S)) (b2i (RC S = 60)) (fresh S) (lost S) (b2i (smokes S = true)) ++ ([qsB cy qq, hO cy (qq 1) (qq 5) (bi 0) (si 0), hO cy (qq 2) (qq 6) (bi 1) (si 1), hO cy (qq 3) (qq 7) (bi 2) (si 2), hO cy (qq 4) (qq 8) (bi 3) (si 3), la cy (qq 5) 40 (f 0), la cy (qq 6) 40 (f 1), la cy (qq 7) 40 (f 2), la cy (qq 8) 40 (stkF S (f 3) i)]))))) = ([sO cy hh a kk dd b w ee qq ik] ++ (pS cy a (drwN S (minN (bstN (si 3)) (gcN S))) ++ ([ia cy (hh 1) 7 C] ++ (aS cy b (PR S) F1_42 N1_42 B1_42 O1_42 Sd1_42 Dv1_42 L1_42 (nI (RC S)) (b2i (RC S = 60)) (fresh S) (lost S) (b2i (smokes S = true)) ++ ([qsB cy qq, hO cy (qq 1) (qq 5) (bi 0) (si 0), hO cy (qq 2) (qq 6) (bi 1) (si 1), hO cy (qq 3) (qq 7) (bi 2) (si 2), hO cy (qq 4) (qq 8) (bi 3) (si 3), la cy (qq 5) 40 (f 0), la cy (qq 6) 40 (f 1), la cy (qq 7) 40 (f 2), la cy (qq 8) 40 (stkF S (f 3) (minN (bstN (si 3)) (gcN S)))]))))) := congrArg (fun z9 => [sO cy hh a kk dd b w ee qq ik] ++ (pS cy a (drwN S (minN (bstN (si 3)) (gcN S))) ++ ([ia cy (hh 1) 7 C] ++ (aS cy b (PR S) F1_42 N1_42 B1_42 O1_42 Sd1_42 Dv1_42 L1_42 (nI (RC S)) (b2i (RC S = 60)) (fresh S) (lost S) (b2i (smokes S = true)) ++ ([qsB cy qq, hO cy (qq 1) (qq 5) (bi 0) (si 0), hO cy (qq 2) (qq 6) (bi 1) (si 1), hO cy (qq 3) (qq 7) (bi 2) (si 2), hO cy (qq 4) (qq 8) (bi 3) (si 3), la cy (qq 5) 40 (f 0), la cy (qq 6) 40 (f 1), la cy (qq 7) 40 (f 2), la cy (qq 8) 40 z9]))))) (show (stkF S (f 3) i) = (stkF S (f 3) (minN (bstN (si 3)) (gcN S))) from by rw [hie])
          replace hP3 := (congrArg (fun z9 => va_P D vwCl z9 _) hq9).mp hP3
          replace hD3 := (congrArg (fun z9 => va_D _ z9) hq9).mp hD3
          clear hq9
          replace hP3 : va_P D vwCl ([sO cy hh a kk dd b w ee qq ik] ++ (pS cy a (drwN S (minN (bstN (si 3)) (gcN S))) ++ ([ia cy (hh 1) 7 C] ++ (aS cy b (PR S) F1_42 N1_42 B1_42 O1_42 Sd1_42 Dv1_42 L1_42 (nI (RC S)) (b2i (RC S = 60)) (fresh S) (lost S) (b2i (smokes S = true)) ++ (shB cy qq bi si (va_up f 3 (stkF S (f 3) (minN (bstN (si 3)) (gcN S))))))))) H3 := hP3
          replace hD3 : va_D (va_A _ sz) ([sO cy hh a kk dd b w ee qq ik] ++ (pS cy a (drwN S (minN (bstN (si 3)) (gcN S))) ++ ([ia cy (hh 1) 7 C] ++ (aS cy b (PR S) F1_42 N1_42 B1_42 O1_42 Sd1_42 Dv1_42 L1_42 (nI (RC S)) (b2i (RC S = 60)) (fresh S) (lost S) (b2i (smokes S = true)) ++ (shB cy qq bi si (va_up f 3 (stkF S (f 3) (minN (bstN (si 3)) (gcN S))))))))) := hD3
          refine lv_iload_n hx hb dX6_sticks_88 rfl (lv_at hl4 1 rfl) ?_
          have hcd : cSh bi 3 = 7 := by unfold cSh; clear hx hb hml hown hr hlocks hw hsz hA hG hK hP3 hD3 hS3 hl4 ih_63; grind
          have hq9 : ([sO cy hh a kk dd b w ee qq ik] ++ (pS cy a (drwN S (minN (bstN (si 3)) (gcN S))) ++ ([ia cy (hh 1) 7 C] ++ (aS cy b (PR S) F1_42 N1_42 B1_42 O1_42 Sd1_42 Dv1_42 L1_42 (nI (RC S)) (b2i (RC S = 60)) (fresh S) (lost S) (b2i (smokes S = true)) ++ (shB cy qq bi si (va_up f 3 (stkF S (f 3) (minN (bstN (si 3)) (gcN S))))))))) = ([sO cy hh a kk dd b w ee qq ik] ++ (pS cy a (drwN S (minN (bstN (si 3)) (gcN S))) ++ ([ia cy (hh 1) 7 (fnd C (cSh bi 3))] ++ (aS cy b (PR S) F1_42 N1_42 B1_42 O1_42 Sd1_42 Dv1_42 L1_42 (nI (RC S)) (b2i (RC S = 60)) (fresh S) (lost S) (b2i (smokes S = true)) ++ (shB cy qq bi si (va_up f 3 (stkF S (f 3) (minN (bstN (si 3)) (gcN S))))))))) := congrArg (fun z9 => [sO cy hh a kk dd b w ee qq ik] ++ (pS cy a (drwN S (minN (bstN (si 3)) (gcN S))) ++ ([ia cy (hh 1) 7 z9] ++ (aS cy b (PR S) F1_42 N1_42 B1_42 O1_42 Sd1_42 Dv1_42 L1_42 (nI (RC S)) (b2i (RC S = 60)) (fresh S) (lost S) (b2i (smokes S = true)) ++ (shB cy qq bi si (va_up f 3 (stkF S (f 3) (minN (bstN (si 3)) (gcN S))))))))) (show C = (fnd C (cSh bi 3)) from fnd_o hcd)
          replace hP3 := (congrArg (fun z9 => va_P D vwCl z9 _) hq9).mp hP3
          replace hD3 := (congrArg (fun z9 => va_D _ z9) hq9).mp hD3
          clear hq9
          have hq9 : ([sO cy hh a kk dd b w ee qq ik] ++ (pS cy a (drwN S (minN (bstN (si 3)) (gcN S))) ++ ([ia cy (hh 1) 7 (fnd C (cSh bi 3))] ++ (aS cy b (PR S) F1_42 N1_42 B1_42 O1_42 Sd1_42 Dv1_42 L1_42 (nI (RC S)) (b2i (RC S = 60)) (fresh S) (lost S) (b2i (smokes S = true)) ++ (shB cy qq bi si (va_up f 3 (stkF S (f 3) (minN (bstN (si 3)) (gcN S))))))))) = ([sO cy hh a kk dd b w ee qq ik] ++ (pS cy a (if cSh bi 3 = 7 then drwN S (minN (bstN (si (bstN 3))) (gcN S)) else S) ++ ([ia cy (hh 1) 7 (fnd C (cSh bi 3))] ++ (aS cy b (PR S) F1_42 N1_42 B1_42 O1_42 Sd1_42 Dv1_42 L1_42 (nI (RC S)) (b2i (RC S = 60)) (fresh S) (lost S) (b2i (smokes S = true)) ++ (shB cy qq bi si (va_up f 3 (stkF S (f 3) (minN (bstN (si 3)) (gcN S))))))))) := congrArg (fun z9 => [sO cy hh a kk dd b w ee qq ik] ++ (pS cy a z9 ++ ([ia cy (hh 1) 7 (fnd C (cSh bi 3))] ++ (aS cy b (PR S) F1_42 N1_42 B1_42 O1_42 Sd1_42 Dv1_42 L1_42 (nI (RC S)) (b2i (RC S = 60)) (fresh S) (lost S) (b2i (smokes S = true)) ++ (shB cy qq bi si (va_up f 3 (stkF S (f 3) (minN (bstN (si 3)) (gcN S))))))))) (show (drwN S (minN (bstN (si 3)) (gcN S))) = (if cSh bi 3 = 7 then drwN S (minN (bstN (si (bstN 3))) (gcN S)) else S) from by rw [if_pos hcd]; simp only [hb0, hb1, hb2, hb3])
          replace hP3 := (congrArg (fun z9 => va_P D vwCl z9 _) hq9).mp hP3
          replace hD3 := (congrArg (fun z9 => va_D _ z9) hq9).mp hD3
          clear hq9
          have hq9 : ([sO cy hh a kk dd b w ee qq ik] ++ (pS cy a (if cSh bi 3 = 7 then drwN S (minN (bstN (si (bstN 3))) (gcN S)) else S) ++ ([ia cy (hh 1) 7 (fnd C (cSh bi 3))] ++ (aS cy b (PR S) F1_42 N1_42 B1_42 O1_42 Sd1_42 Dv1_42 L1_42 (nI (RC S)) (b2i (RC S = 60)) (fresh S) (lost S) (b2i (smokes S = true)) ++ (shB cy qq bi si (va_up f 3 (stkF S (f 3) (minN (bstN (si 3)) (gcN S))))))))) = ([sO cy hh a kk dd b w ee qq ik] ++ (pS cy a (if cSh bi 3 = 7 then drwN S (minN (bstN (si (bstN 3))) (gcN S)) else S) ++ ([ia cy (hh 1) 7 (fnd C (cSh bi 3))] ++ (aS cy b (PR S) F1_42 N1_42 B1_42 O1_42 Sd1_42 Dv1_42 L1_42 (nI (RC S)) (b2i (RC S = 60)) (fresh S) (lost S) (b2i (smokes S = true)) ++ (shB cy qq bi si (if cSh bi 3 = 7 then va_up f (bstN 3) (stkF S (f (bstN 3)) (minN (bstN (si (bstN 3))) (gcN S))) else f)))))) := congrArg (fun z9 => [sO cy hh a kk dd b w ee qq ik] ++ (pS cy a (if cSh bi 3 = 7 then drwN S (minN (bstN (si (bstN 3))) (gcN S)) else S) ++ ([ia cy (hh 1) 7 (fnd C (cSh bi 3))] ++ (aS cy b (PR S) F1_42 N1_42 B1_42 O1_42 Sd1_42 Dv1_42 L1_42 (nI (RC S)) (b2i (RC S = 60)) (fresh S) (lost S) (b2i (smokes S = true)) ++ (shB cy qq bi si z9))))) (show (va_up f 3 (stkF S (f 3) (minN (bstN (si 3)) (gcN S)))) = (if cSh bi 3 = 7 then va_up f (bstN 3) (stkF S (f (bstN 3)) (minN (bstN (si (bstN 3))) (gcN S))) else f) from by rw [if_pos hcd]; simp only [hb0, hb1, hb2, hb3])
          replace hP3 := (congrArg (fun z9 => va_P D vwCl z9 _) hq9).mp hP3
          replace hD3 := (congrArg (fun z9 => va_D _ z9) hq9).mp hD3
          clear hq9
          refine re_i (PR S, F1_42, N1_42, B1_42, O1_42, Sd1_42, Dv1_42, L1_42, nI (RC S), b2i (RC S = 60), fresh S, lost S, b2i (smokes S = true)) hx hb hr hlocks hP3 hD3 hS3 dX6_sticks_89 ?_
          exact (ans_o hcd (by simp only [hb0, hb1, hb2, hb3]))
        · refine lv_aload_n hx hb dX6_sticks_69 rfl (lv_at hl4 2 rfl) ?_
          refine lv_iload hx hb dX6_sticks_70 (lv_at hl4 0 rfl) ?_
          refine lv_aload_n hx hb dX6_sticks_72 rfl (lv_at hl4 3 rfl) ?_
          refine lv_iload hx hb dX6_sticks_73 (lv_at hl4 0 rfl) ?_
          refine cV_i (wc := [sO cy hh a kk dd b w ee qq ik] ++ (pS cy a (drwN S i) ++ (aS cy b (PR S) F1_42 N1_42 B1_42 O1_42 Sd1_42 Dv1_42 L1_42 (nI (RC S)) (b2i (RC S = 60)) (fresh S) (lost S) (b2i (smokes S = true))))) (wr := [ia cy (hh 1) 7 C, qsB cy qq, hO cy (qq 1) (qq 5) (bi 0) (si 0), hO cy (qq 2) (qq 6) (bi 1) (si 1), hO cy (qq 3) (qq 7) (bi 2) (si 2), hO cy (qq 4) (qq 8) (bi 3) (si 3), la cy (qq 5) 40 (f 0), la cy (qq 6) 40 (f 1), la cy (qq 7) 40 (f 2), la cy (qq 8) 40 (stkF S (f 3) i)]) (rest := [.int (nI i), .ref (qq 4)]) hx hb hml hown hw hG hK hP3 hD3 hS3 hA hl4 kc_X6_seenAt kw_3_119 [.int (nI i)] (c_X6_seenAt l D cy G H3.size hh a kk dd b w ee qq ik (drwN S i) (PR S) F1_42 N1_42 B1_42 O1_42 Sd1_42 Dv1_42 L1_42 (nI (RC S)) (b2i (RC S = 60)) (fresh S) (lost S) (b2i (smokes S = true)) i ((drwN_wf wf i).1) (by rw [(drwN_wf wf i).2.2]; omega)) [0, 1, 2, 3, 4, 5, 6, 7, 8, 9, 10, 12, 13, 14, 15, 16, 17, 18, 19, 20, 21, 22, 23, 24, 25, 26] [11, 27, 28, 29, 30, 31, 32, 33, 34, 35] rfl rfl rfl rfl rfl 0 rfl rfl rfl rfl rfl (Nat.le_of_ble_eq_true rfl) ⟨Nat.le_of_ble_eq_true rfl, Nat.le_of_ble_eq_true rfl⟩ dX6_sticks_75 ⟨Nat.le_of_ble_eq_true rfl, Nat.le_of_ble_eq_true rfl⟩ (fun r_75 u9 H4 locs4 hu9 hP4 hD4 hS4 => ?_)
          clear hP3 hD3 hS3 locs3 H3
          have hr_75 := hu9
          replace hP4 : va_P D vwCl ([ia cy (hh 1) 7 C, qsB cy qq, hO cy (qq 1) (qq 5) (bi 0) (si 0), hO cy (qq 2) (qq 6) (bi 1) (si 1), hO cy (qq 3) (qq 7) (bi 2) (si 2), hO cy (qq 4) (qq 8) (bi 3) (si 3), la cy (qq 5) 40 (f 0), la cy (qq 6) 40 (f 1), la cy (qq 7) 40 (f 2), la cy (qq 8) 40 (stkF S (f 3) i), sO cy hh a kk dd b w ee qq ik] ++ (pS cy a (drw (drwN S i)) ++ (aS cy b (PR S) F1_42 N1_42 B1_42 O1_42 Sd1_42 Dv1_42 L1_42 (nI (RC S)) (b2i (RC S = 60)) (fresh S) (lost S) (b2i (smokes S = true))))) H4 := hP4
          replace hD4 : va_D (va_A _ sz) ([ia cy (hh 1) 7 C, qsB cy qq, hO cy (qq 1) (qq 5) (bi 0) (si 0), hO cy (qq 2) (qq 6) (bi 1) (si 1), hO cy (qq 3) (qq 7) (bi 2) (si 2), hO cy (qq 4) (qq 8) (bi 3) (si 3), la cy (qq 5) 40 (f 0), la cy (qq 6) 40 (f 1), la cy (qq 7) 40 (f 2), la cy (qq 8) 40 (stkF S (f 3) i), sO cy hh a kk dd b w ee qq ik] ++ (pS cy a (drw (drwN S i)) ++ (aS cy b (PR S) F1_42 N1_42 B1_42 O1_42 Sd1_42 Dv1_42 L1_42 (nI (RC S)) (b2i (RC S = 60)) (fresh S) (lost S) (b2i (smokes S = true))))) := hD4
          replace hP4 := hP4.sub (ws' := [sO cy hh a kk dd b w ee qq ik] ++ (pS cy a (drw (drwN S i)) ++ ([ia cy (hh 1) 7 C] ++ (aS cy b (PR S) F1_42 N1_42 B1_42 O1_42 Sd1_42 Dv1_42 L1_42 (nI (RC S)) (b2i (RC S = 60)) (fresh S) (lost S) (b2i (smokes S = true)) ++ ([qsB cy qq, hO cy (qq 1) (qq 5) (bi 0) (si 0), hO cy (qq 2) (qq 6) (bi 1) (si 1), hO cy (qq 3) (qq 7) (bi 2) (si 2), hO cy (qq 4) (qq 8) (bi 3) (si 3), la cy (qq 5) 40 (f 0), la cy (qq 6) 40 (f 1), la cy (qq 7) 40 (f 2), la cy (qq 8) 40 (stkF S (f 3) i)]))))) [10, 11, 12, 13, 14, 15, 16, 17, 18, 19, 20, 0, 21, 22, 23, 24, 25, 26, 27, 28, 29, 30, 31, 32, 33, 34, 35, 1, 2, 3, 4, 5, 6, 7, 8, 9] rfl
          replace hD4 := hD4.sub (ws' := [sO cy hh a kk dd b w ee qq ik] ++ (pS cy a (drw (drwN S i)) ++ ([ia cy (hh 1) 7 C] ++ (aS cy b (PR S) F1_42 N1_42 B1_42 O1_42 Sd1_42 Dv1_42 L1_42 (nI (RC S)) (b2i (RC S = 60)) (fresh S) (lost S) (b2i (smokes S = true)) ++ ([qsB cy qq, hO cy (qq 1) (qq 5) (bi 0) (si 0), hO cy (qq 2) (qq 6) (bi 1) (si 1), hO cy (qq 3) (qq 7) (bi 2) (si 2), hO cy (qq 4) (qq 8) (bi 3) (si 3), la cy (qq 5) 40 (f 0), la cy (qq 6) 40 (f 1), la cy (qq 7) 40 (f 2), la cy (qq 8) 40 (stkF S (f 3) i)]))))) [10, 11, 12, 13, 14, 15, 16, 17, 18, 19, 20, 0, 21, 22, 23, 24, 25, 26, 27, 28, 29, 30, 31, 32, 33, 34, 35, 1, 2, 3, 4, 5, 6, 7, 8, 9] (by decide) rfl
          subst hr_75
          refine tp (show (seenV (drwN S i) (F1_42 i) i) = seenK S i from congrArg (fun z9 => seenV (drwN S i) z9 i) (hF_42 i (by omega))) ?_
          refine lv_i2l hx hb dX6_sticks_78 rfl ?_
          refine cV_v (wc := [hO cy (qq 4) (qq 8) (bi 3) (si 3), la cy (qq 8) 40 (stkF S (f 3) i)]) (wr := [sO cy hh a kk dd b w ee qq ik] ++ (pS cy a (drw (drwN S i)) ++ ([ia cy (hh 1) 7 C] ++ (aS cy b (PR S) F1_42 N1_42 B1_42 O1_42 Sd1_42 Dv1_42 L1_42 (nI (RC S)) (b2i (RC S = 60)) (fresh S) (lost S) (b2i (smokes S = true)) ++ ([qsB cy qq, hO cy (qq 1) (qq 5) (bi 0) (si 0), hO cy (qq 2) (qq 6) (bi 1) (si 1), hO cy (qq 3) (qq 7) (bi 2) (si 2), la cy (qq 5) 40 (f 0), la cy (qq 6) 40 (f 1), la cy (qq 7) 40 (f 2)]))))) (rest := []) hx hb hml hown hw hG hK hP4 hD4 hS4 hA hl4 kc_X2_put kw_3_132 [.int (nI i), .long ((seenK S i).toInt64)] (c_X2_put l D cy G H4.size (qq 4) (qq 8) (bi 3) (si 3) (stkF S (f 3) i) (bstN (si 3)) i ((seenK S i).toInt64) ((hso 3 (by decide)).1) (by omega) hq3) [31, 35] [0, 1, 2, 3, 4, 5, 6, 7, 8, 9, 10, 11, 12, 13, 14, 15, 16, 17, 18, 19, 20, 21, 22, 23, 24, 25, 26, 27, 28, 29, 30, 32, 33, 34] rfl rfl rfl rfl rfl 0 rfl rfl rfl rfl rfl (Nat.le_of_ble_eq_true rfl) ⟨Nat.le_of_ble_eq_true rfl, Nat.le_of_ble_eq_true rfl⟩ dX6_sticks_79 ⟨Nat.le_of_ble_eq_true rfl, Nat.le_of_ble_eq_true rfl⟩ (fun u9 H5 locs5 hu9 hP5 hD5 hS5 => ?_)
          clear hP4 hD4 hS4 locs4 H4
          replace hP5 : va_P D vwCl ([sO cy hh a kk dd b w ee qq ik] ++ (pS cy a (drw (drwN S i)) ++ ([ia cy (hh 1) 7 C] ++ (aS cy b (PR S) F1_42 N1_42 B1_42 O1_42 Sd1_42 Dv1_42 L1_42 (nI (RC S)) (b2i (RC S = 60)) (fresh S) (lost S) (b2i (smokes S = true)) ++ ([qsB cy qq, hO cy (qq 1) (qq 5) (bi 0) (si 0), hO cy (qq 2) (qq 6) (bi 1) (si 1), hO cy (qq 3) (qq 7) (bi 2) (si 2), la cy (qq 5) 40 (f 0), la cy (qq 6) 40 (f 1), la cy (qq 7) 40 (f 2), hO cy (qq 4) (qq 8) (bi 3) (si 3), la cy (qq 8) 40 (vp_updL (stkF S (f 3) i) i (nrw (bi 3) ((seenK S i).toInt64)))]))))) H5 := hP5
          replace hD5 : va_D (va_A _ sz) ([sO cy hh a kk dd b w ee qq ik] ++ (pS cy a (drw (drwN S i)) ++ ([ia cy (hh 1) 7 C] ++ (aS cy b (PR S) F1_42 N1_42 B1_42 O1_42 Sd1_42 Dv1_42 L1_42 (nI (RC S)) (b2i (RC S = 60)) (fresh S) (lost S) (b2i (smokes S = true)) ++ ([qsB cy qq, hO cy (qq 1) (qq 5) (bi 0) (si 0), hO cy (qq 2) (qq 6) (bi 1) (si 1), hO cy (qq 3) (qq 7) (bi 2) (si 2), la cy (qq 5) 40 (f 0), la cy (qq 6) 40 (f 1), la cy (qq 7) 40 (f 2), hO cy (qq 4) (qq 8) (bi 3) (si 3), la cy (qq 8) 40 (vp_updL (stkF S (f 3) i) i (nrw (bi 3) ((seenK S i).toInt64)))]))))) := hD5
          replace hP5 := hP5.sub (ws' := [sO cy hh a kk dd b w ee qq ik] ++ (pS cy a (drw (drwN S i)) ++ ([ia cy (hh 1) 7 C] ++ (aS cy b (PR S) F1_42 N1_42 B1_42 O1_42 Sd1_42 Dv1_42 L1_42 (nI (RC S)) (b2i (RC S = 60)) (fresh S) (lost S) (b2i (smokes S = true)) ++ ([qsB cy qq, hO cy (qq 1) (qq 5) (bi 0) (si 0), hO cy (qq 2) (qq 6) (bi 1) (si 1), hO cy (qq 3) (qq 7) (bi 2) (si 2), hO cy (qq 4) (qq 8) (bi 3) (si 3), la cy (qq 5) 40 (f 0), la cy (qq 6) 40 (f 1), la cy (qq 7) 40 (f 2), la cy (qq 8) 40 (vp_updL (stkF S (f 3) i) i (nrw (bi 3) ((seenK S i).toInt64)))]))))) [0, 1, 2, 3, 4, 5, 6, 7, 8, 9, 10, 11, 12, 13, 14, 15, 16, 17, 18, 19, 20, 21, 22, 23, 24, 25, 26, 27, 28, 29, 30, 34, 31, 32, 33, 35] rfl
          replace hD5 := hD5.sub (ws' := [sO cy hh a kk dd b w ee qq ik] ++ (pS cy a (drw (drwN S i)) ++ ([ia cy (hh 1) 7 C] ++ (aS cy b (PR S) F1_42 N1_42 B1_42 O1_42 Sd1_42 Dv1_42 L1_42 (nI (RC S)) (b2i (RC S = 60)) (fresh S) (lost S) (b2i (smokes S = true)) ++ ([qsB cy qq, hO cy (qq 1) (qq 5) (bi 0) (si 0), hO cy (qq 2) (qq 6) (bi 1) (si 1), hO cy (qq 3) (qq 7) (bi 2) (si 2), hO cy (qq 4) (qq 8) (bi 3) (si 3), la cy (qq 5) 40 (f 0), la cy (qq 6) 40 (f 1), la cy (qq 7) 40 (f 2), la cy (qq 8) 40 (vp_updL (stkF S (f 3) i) i (nrw (bi 3) ((seenK S i).toInt64)))]))))) [0, 1, 2, 3, 4, 5, 6, 7, 8, 9, 10, 11, 12, 13, 14, 15, 16, 17, 18, 19, 20, 21, 22, 23, 24, 25, 26, 27, 28, 29, 30, 34, 31, 32, 33, 35] (by decide) rfl
          have hq9 : ([sO cy hh a kk dd b w ee qq ik] ++ (pS cy a (drw (drwN S i)) ++ ([ia cy (hh 1) 7 C] ++ (aS cy b (PR S) F1_42 N1_42 B1_42 O1_42 Sd1_42 Dv1_42 L1_42 (nI (RC S)) (b2i (RC S = 60)) (fresh S) (lost S) (b2i (smokes S = true)) ++ ([qsB cy qq, hO cy (qq 1) (qq 5) (bi 0) (si 0), hO cy (qq 2) (qq 6) (bi 1) (si 1), hO cy (qq 3) (qq 7) (bi 2) (si 2), hO cy (qq 4) (qq 8) (bi 3) (si 3), la cy (qq 5) 40 (f 0), la cy (qq 6) 40 (f 1), la cy (qq 7) 40 (f 2), la cy (qq 8) 40 (vp_updL (stkF S (f 3) i) i (nrw (bi 3) ((seenK S i).toInt64)))]))))) = ([sO cy hh a kk dd b w ee qq ik] ++ (pS cy a (drwN S (i + 1)) ++ ([ia cy (hh 1) 7 C] ++ (aS cy b (PR S) F1_42 N1_42 B1_42 O1_42 Sd1_42 Dv1_42 L1_42 (nI (RC S)) (b2i (RC S = 60)) (fresh S) (lost S) (b2i (smokes S = true)) ++ ([qsB cy qq, hO cy (qq 1) (qq 5) (bi 0) (si 0), hO cy (qq 2) (qq 6) (bi 1) (si 1), hO cy (qq 3) (qq 7) (bi 2) (si 2), hO cy (qq 4) (qq 8) (bi 3) (si 3), la cy (qq 5) 40 (f 0), la cy (qq 6) 40 (f 1), la cy (qq 7) 40 (f 2), la cy (qq 8) 40 (vp_updL (stkF S (f 3) i) i (nrw (bi 3) ((seenK S i).toInt64)))]))))) := congrArg (fun z9 => [sO cy hh a kk dd b w ee qq ik] ++ (pS cy a z9 ++ ([ia cy (hh 1) 7 C] ++ (aS cy b (PR S) F1_42 N1_42 B1_42 O1_42 Sd1_42 Dv1_42 L1_42 (nI (RC S)) (b2i (RC S = 60)) (fresh S) (lost S) (b2i (smokes S = true)) ++ ([qsB cy qq, hO cy (qq 1) (qq 5) (bi 0) (si 0), hO cy (qq 2) (qq 6) (bi 1) (si 1), hO cy (qq 3) (qq 7) (bi 2) (si 2), hO cy (qq 4) (qq 8) (bi 3) (si 3), la cy (qq 5) 40 (f 0), la cy (qq 6) 40 (f 1), la cy (qq 7) 40 (f 2), la cy (qq 8) 40 (vp_updL (stkF S (f 3) i) i (nrw (bi 3) ((seenK S i).toInt64)))]))))) (show (drw (drwN S i)) = (drwN S (i + 1)) from rfl)
          replace hP5 := (congrArg (fun z9 => va_P D vwCl z9 _) hq9).mp hP5
          replace hD5 := (congrArg (fun z9 => va_D _ z9) hq9).mp hD5
          clear hq9
          have hq9 : ([sO cy hh a kk dd b w ee qq ik] ++ (pS cy a (drwN S (i + 1)) ++ ([ia cy (hh 1) 7 C] ++ (aS cy b (PR S) F1_42 N1_42 B1_42 O1_42 Sd1_42 Dv1_42 L1_42 (nI (RC S)) (b2i (RC S = 60)) (fresh S) (lost S) (b2i (smokes S = true)) ++ ([qsB cy qq, hO cy (qq 1) (qq 5) (bi 0) (si 0), hO cy (qq 2) (qq 6) (bi 1) (si 1), hO cy (qq 3) (qq 7) (bi 2) (si 2), hO cy (qq 4) (qq 8) (bi 3) (si 3), la cy (qq 5) 40 (f 0), la cy (qq 6) 40 (f 1), la cy (qq 7) 40 (f 2), la cy (qq 8) 40 (vp_updL (stkF S (f 3) i) i (nrw (bi 3) ((seenK S i).toInt64)))]))))) = ([sO cy hh a kk dd b w ee qq ik] ++ (pS cy a (drwN S (i + 1)) ++ ([ia cy (hh 1) 7 C] ++ (aS cy b (PR S) F1_42 N1_42 B1_42 O1_42 Sd1_42 Dv1_42 L1_42 (nI (RC S)) (b2i (RC S = 60)) (fresh S) (lost S) (b2i (smokes S = true)) ++ ([qsB cy qq, hO cy (qq 1) (qq 5) (bi 0) (si 0), hO cy (qq 2) (qq 6) (bi 1) (si 1), hO cy (qq 3) (qq 7) (bi 2) (si 2), hO cy (qq 4) (qq 8) (bi 3) (si 3), la cy (qq 5) 40 (f 0), la cy (qq 6) 40 (f 1), la cy (qq 7) 40 (f 2), la cy (qq 8) 40 (stkF S (f 3) (i + 1))]))))) := congrArg (fun z9 => [sO cy hh a kk dd b w ee qq ik] ++ (pS cy a (drwN S (i + 1)) ++ ([ia cy (hh 1) 7 C] ++ (aS cy b (PR S) F1_42 N1_42 B1_42 O1_42 Sd1_42 Dv1_42 L1_42 (nI (RC S)) (b2i (RC S = 60)) (fresh S) (lost S) (b2i (smokes S = true)) ++ ([qsB cy qq, hO cy (qq 1) (qq 5) (bi 0) (si 0), hO cy (qq 2) (qq 6) (bi 1) (si 1), hO cy (qq 3) (qq 7) (bi 2) (si 2), hO cy (qq 4) (qq 8) (bi 3) (si 3), la cy (qq 5) 40 (f 0), la cy (qq 6) 40 (f 1), la cy (qq 7) 40 (f 2), la cy (qq 8) 40 z9]))))) (show (vp_updL (stkF S (f 3) i) i (nrw (bi 3) ((seenK S i).toInt64))) = (stkF S (f 3) (i + 1)) from congrArg (vp_updL (stkF S (f 3) i) i) (nrw_small (seenV_rng _ _ _)))
          replace hP5 := (congrArg (fun z9 => va_P D vwCl z9 _) hq9).mp hP5
          replace hD5 := (congrArg (fun z9 => va_D _ z9) hq9).mp hD5
          clear hq9
          refine lv_iinc (v := nI (i + 1)) (lv' := [(4, .int (nI (i + 1))), (3, .int (nI (minN (bstN (si 3)) (gcN S)))), (2, .ref (qq 4)), (0, .ref (hh 0)), (1, .int 3)]) hx hb dX6_sticks_82 hl4 (k := 0) rfl (nI_inc _) (by decide) rfl (fun ls5 hl5 => ?_)
          clear hl4 ls4
          refine lv_goto (tgt := 63) hx hb dX6_sticks_85 (by decide) ?_
          exact ih_63 (i + 1) (by first | omega | assumption | rfl | simp_all) (by (try dsimp only); omega) H5 locs5 ls5 hP5 hD5 hS5 (lv_sub hl5 [0, 1, 2, 3, 4] rfl)
      · replace hP1 : va_P D vwCl ([sO cy hh a kk dd b w ee qq ik] ++ (pS cy a S ++ ([ia cy (hh 1) 7 C] ++ (aS cy b P F N B O Sd Dv L rc re fr lo sm ++ (shB cy qq bi si f))))) H1 := hP1
        replace hD1 : va_D (va_A _ sz) ([sO cy hh a kk dd b w ee qq ik] ++ (pS cy a S ++ ([ia cy (hh 1) 7 C] ++ (aS cy b P F N B O Sd Dv L rc re fr lo sm ++ (shB cy qq bi si f))))) := hD1
        refine lv_aload_n hx hb dX6_sticks_28 rfl (lv_at hl1 1 rfl) ?_
        refine lv_iconst (v := 5) hx hb dX6_sticks_29 (by decide) ?_
        refine cV_i (wc := [sO cy hh a kk dd b w ee qq ik, ia cy (hh 1) 7 C]) (wr := pS cy a S ++ (aS cy b P F N B O Sd Dv L rc re fr lo sm ++ (shB cy qq bi si f))) (rest := []) hx hb hml hown hw hG hK hP1 hD1 hS1 hA hl1 kc_X6_find kw_2_59 [.int 5] (c_X6_find l D cy G H1.size hh a kk dd b w ee qq ik C 5 (by first | omega | assumption)) [0, 11] [1, 2, 3, 4, 5, 6, 7, 8, 9, 10, 12, 13, 14, 15, 16, 17, 18, 19, 20, 21, 22, 23, 24, 25, 26, 27, 28, 29, 30, 31, 32, 33, 34, 35] rfl rfl rfl rfl rfl 0 rfl rfl rfl rfl rfl (Nat.le_of_ble_eq_true rfl) ⟨Nat.le_of_ble_eq_true rfl, Nat.le_of_ble_eq_true rfl⟩ dX6_sticks_30 ⟨Nat.le_of_ble_eq_true rfl, Nat.le_of_ble_eq_true rfl⟩ (fun r_30 u9 H2 locs2 hu9 hP2 hD2 hS2 => ?_)
        clear hP1 hD1 hS1 locs1 H1
        have hr_30 := hu9
        replace hP2 : va_P D vwCl (pS cy a S ++ (aS cy b P F N B O Sd Dv L rc re fr lo sm ++ (shB cy qq bi si f ++ ([sO cy hh a kk dd b w ee qq ik, ia cy (hh 1) 7 (upd C 5 (C 5 + 1))])))) H2 := hP2
        replace hD2 : va_D (va_A _ sz) (pS cy a S ++ (aS cy b P F N B O Sd Dv L rc re fr lo sm ++ (shB cy qq bi si f ++ ([sO cy hh a kk dd b w ee qq ik, ia cy (hh 1) 7 (upd C 5 (C 5 + 1))])))) := hD2
        replace hP2 := hP2.sub (ws' := [sO cy hh a kk dd b w ee qq ik] ++ (pS cy a S ++ ([ia cy (hh 1) 7 (upd C 5 (C 5 + 1))] ++ (aS cy b P F N B O Sd Dv L rc re fr lo sm ++ (shB cy qq bi si f))))) [34, 0, 1, 2, 3, 4, 5, 6, 7, 8, 9, 35, 10, 11, 12, 13, 14, 15, 16, 17, 18, 19, 20, 21, 22, 23, 24, 25, 26, 27, 28, 29, 30, 31, 32, 33] rfl
        replace hD2 := hD2.sub (ws' := [sO cy hh a kk dd b w ee qq ik] ++ (pS cy a S ++ ([ia cy (hh 1) 7 (upd C 5 (C 5 + 1))] ++ (aS cy b P F N B O Sd Dv L rc re fr lo sm ++ (shB cy qq bi si f))))) [34, 0, 1, 2, 3, 4, 5, 6, 7, 8, 9, 35, 10, 11, 12, 13, 14, 15, 16, 17, 18, 19, 20, 21, 22, 23, 24, 25, 26, 27, 28, 29, 30, 31, 32, 33] (by decide) rfl
        subst hr_30
        have hcd : cSh bi 3 = 5 := by unfold cSh; clear hx hb hml hown hr hlocks hw hsz hA hG hK hP2 hD2 hS2 hl1; grind
        have hq9 : ([sO cy hh a kk dd b w ee qq ik] ++ (pS cy a S ++ ([ia cy (hh 1) 7 (upd C 5 (C 5 + 1))] ++ (aS cy b P F N B O Sd Dv L rc re fr lo sm ++ (shB cy qq bi si f))))) = ([sO cy hh a kk dd b w ee qq ik] ++ (pS cy a S ++ ([ia cy (hh 1) 7 (fnd C (cSh bi 3))] ++ (aS cy b P F N B O Sd Dv L rc re fr lo sm ++ (shB cy qq bi si f))))) := congrArg (fun z9 => [sO cy hh a kk dd b w ee qq ik] ++ (pS cy a S ++ ([ia cy (hh 1) 7 z9] ++ (aS cy b P F N B O Sd Dv L rc re fr lo sm ++ (shB cy qq bi si f))))) (show (upd C 5 (C 5 + 1)) = (fnd C (cSh bi 3)) from fnd_f hcd (by decide))
        replace hP2 := (congrArg (fun z9 => va_P D vwCl z9 _) hq9).mp hP2
        replace hD2 := (congrArg (fun z9 => va_D _ z9) hq9).mp hD2
        clear hq9
        have hq9 : ([sO cy hh a kk dd b w ee qq ik] ++ (pS cy a S ++ ([ia cy (hh 1) 7 (fnd C (cSh bi 3))] ++ (aS cy b P F N B O Sd Dv L rc re fr lo sm ++ (shB cy qq bi si f))))) = ([sO cy hh a kk dd b w ee qq ik] ++ (pS cy a (if cSh bi 3 = 7 then drwN S (minN (bstN (si (bstN 3))) (gcN S)) else S) ++ ([ia cy (hh 1) 7 (fnd C (cSh bi 3))] ++ (aS cy b P F N B O Sd Dv L rc re fr lo sm ++ (shB cy qq bi si f))))) := congrArg (fun z9 => [sO cy hh a kk dd b w ee qq ik] ++ (pS cy a z9 ++ ([ia cy (hh 1) 7 (fnd C (cSh bi 3))] ++ (aS cy b P F N B O Sd Dv L rc re fr lo sm ++ (shB cy qq bi si f))))) (show S = (if cSh bi 3 = 7 then drwN S (minN (bstN (si (bstN 3))) (gcN S)) else S) from (if_neg (fun z9 => absurd (hcd.symm.trans z9) (by decide))).symm)
        replace hP2 := (congrArg (fun z9 => va_P D vwCl z9 _) hq9).mp hP2
        replace hD2 := (congrArg (fun z9 => va_D _ z9) hq9).mp hD2
        clear hq9
        have hq9 : ([sO cy hh a kk dd b w ee qq ik] ++ (pS cy a (if cSh bi 3 = 7 then drwN S (minN (bstN (si (bstN 3))) (gcN S)) else S) ++ ([ia cy (hh 1) 7 (fnd C (cSh bi 3))] ++ (aS cy b P F N B O Sd Dv L rc re fr lo sm ++ (shB cy qq bi si f))))) = ([sO cy hh a kk dd b w ee qq ik] ++ (pS cy a (if cSh bi 3 = 7 then drwN S (minN (bstN (si (bstN 3))) (gcN S)) else S) ++ ([ia cy (hh 1) 7 (fnd C (cSh bi 3))] ++ (aS cy b P F N B O Sd Dv L rc re fr lo sm ++ (shB cy qq bi si (if cSh bi 3 = 7 then va_up f (bstN 3) (stkF S (f (bstN 3)) (minN (bstN (si (bstN 3))) (gcN S))) else f)))))) := congrArg (fun z9 => [sO cy hh a kk dd b w ee qq ik] ++ (pS cy a (if cSh bi 3 = 7 then drwN S (minN (bstN (si (bstN 3))) (gcN S)) else S) ++ ([ia cy (hh 1) 7 (fnd C (cSh bi 3))] ++ (aS cy b P F N B O Sd Dv L rc re fr lo sm ++ (shB cy qq bi si z9))))) (show f = (if cSh bi 3 = 7 then va_up f (bstN 3) (stkF S (f (bstN 3)) (minN (bstN (si (bstN 3))) (gcN S))) else f) from (if_neg (fun z9 => absurd (hcd.symm.trans z9) (by decide))).symm)
        replace hP2 := (congrArg (fun z9 => va_P D vwCl z9 _) hq9).mp hP2
        replace hD2 := (congrArg (fun z9 => va_D _ z9) hq9).mp hD2
        clear hq9
        refine re_i (P, F, N, B, O, Sd, Dv, L, rc, re, fr, lo, sm) hx hb hr hlocks hP2 hD2 hS2 dX6_sticks_33 ?_
        exact (ans_f hcd (by decide) rfl)
  · refine lv_aload_n hx hb dX6_sticks_8 rfl (lv_at hl0 0 rfl) ?_
    refine lv_iconst (v := 0) hx hb dX6_sticks_9 (by decide) ?_
    refine cV_i (wc := [sO cy hh a kk dd b w ee qq ik, ia cy (hh 1) 7 C]) (wr := pS cy a S ++ (aS cy b P F N B O Sd Dv L rc re fr lo sm ++ (shB cy qq bi si f))) (rest := []) hx hb hml hown hw hG hK hP1 hD1 hS1 hA hl0 kc_X6_find kw_2_59 [.int 0] (c_X6_find l D cy G H1.size hh a kk dd b w ee qq ik C 0 (by first | omega | assumption)) [0, 11] [1, 2, 3, 4, 5, 6, 7, 8, 9, 10, 12, 13, 14, 15, 16, 17, 18, 19, 20, 21, 22, 23, 24, 25, 26, 27, 28, 29, 30, 31, 32, 33, 34, 35] rfl rfl rfl rfl rfl 0 rfl rfl rfl rfl rfl (Nat.le_of_ble_eq_true rfl) ⟨Nat.le_of_ble_eq_true rfl, Nat.le_of_ble_eq_true rfl⟩ dX6_sticks_10 ⟨Nat.le_of_ble_eq_true rfl, Nat.le_of_ble_eq_true rfl⟩ (fun r_10 u9 H2 locs2 hu9 hP2 hD2 hS2 => ?_)
    clear hP1 hD1 hS1 locs1 H1
    have hr_10 := hu9
    replace hP2 : va_P D vwCl (pS cy a S ++ (aS cy b P F N B O Sd Dv L rc re fr lo sm ++ (shB cy qq bi si f ++ ([sO cy hh a kk dd b w ee qq ik, ia cy (hh 1) 7 (upd C 0 (C 0 + 1))])))) H2 := hP2
    replace hD2 : va_D (va_A _ sz) (pS cy a S ++ (aS cy b P F N B O Sd Dv L rc re fr lo sm ++ (shB cy qq bi si f ++ ([sO cy hh a kk dd b w ee qq ik, ia cy (hh 1) 7 (upd C 0 (C 0 + 1))])))) := hD2
    replace hP2 := hP2.sub (ws' := [sO cy hh a kk dd b w ee qq ik] ++ (pS cy a S ++ ([ia cy (hh 1) 7 (upd C 0 (C 0 + 1))] ++ (aS cy b P F N B O Sd Dv L rc re fr lo sm ++ (shB cy qq bi si f))))) [34, 0, 1, 2, 3, 4, 5, 6, 7, 8, 9, 35, 10, 11, 12, 13, 14, 15, 16, 17, 18, 19, 20, 21, 22, 23, 24, 25, 26, 27, 28, 29, 30, 31, 32, 33] rfl
    replace hD2 := hD2.sub (ws' := [sO cy hh a kk dd b w ee qq ik] ++ (pS cy a S ++ ([ia cy (hh 1) 7 (upd C 0 (C 0 + 1))] ++ (aS cy b P F N B O Sd Dv L rc re fr lo sm ++ (shB cy qq bi si f))))) [34, 0, 1, 2, 3, 4, 5, 6, 7, 8, 9, 35, 10, 11, 12, 13, 14, 15, 16, 17, 18, 19, 20, 21, 22, 23, 24, 25, 26, 27, 28, 29, 30, 31, 32, 33] (by decide) rfl
    subst hr_10
    have hcd : cSh bi x1 = 0 := by unfold cSh; clear hx hb hml hown hr hlocks hw hsz hA hG hK hP2 hD2 hS2 hl0; grind
    have hq9 : ([sO cy hh a kk dd b w ee qq ik] ++ (pS cy a S ++ ([ia cy (hh 1) 7 (upd C 0 (C 0 + 1))] ++ (aS cy b P F N B O Sd Dv L rc re fr lo sm ++ (shB cy qq bi si f))))) = ([sO cy hh a kk dd b w ee qq ik] ++ (pS cy a S ++ ([ia cy (hh 1) 7 (fnd C (cSh bi x1))] ++ (aS cy b P F N B O Sd Dv L rc re fr lo sm ++ (shB cy qq bi si f))))) := congrArg (fun z9 => [sO cy hh a kk dd b w ee qq ik] ++ (pS cy a S ++ ([ia cy (hh 1) 7 z9] ++ (aS cy b P F N B O Sd Dv L rc re fr lo sm ++ (shB cy qq bi si f))))) (show (upd C 0 (C 0 + 1)) = (fnd C (cSh bi x1)) from fnd_f hcd (by decide))
    replace hP2 := (congrArg (fun z9 => va_P D vwCl z9 _) hq9).mp hP2
    replace hD2 := (congrArg (fun z9 => va_D _ z9) hq9).mp hD2
    clear hq9
    have hq9 : ([sO cy hh a kk dd b w ee qq ik] ++ (pS cy a S ++ ([ia cy (hh 1) 7 (fnd C (cSh bi x1))] ++ (aS cy b P F N B O Sd Dv L rc re fr lo sm ++ (shB cy qq bi si f))))) = ([sO cy hh a kk dd b w ee qq ik] ++ (pS cy a (if cSh bi x1 = 7 then drwN S (minN (bstN (si (bstN x1))) (gcN S)) else S) ++ ([ia cy (hh 1) 7 (fnd C (cSh bi x1))] ++ (aS cy b P F N B O Sd Dv L rc re fr lo sm ++ (shB cy qq bi si f))))) := congrArg (fun z9 => [sO cy hh a kk dd b w ee qq ik] ++ (pS cy a z9 ++ ([ia cy (hh 1) 7 (fnd C (cSh bi x1))] ++ (aS cy b P F N B O Sd Dv L rc re fr lo sm ++ (shB cy qq bi si f))))) (show S = (if cSh bi x1 = 7 then drwN S (minN (bstN (si (bstN x1))) (gcN S)) else S) from (if_neg (fun z9 => absurd (hcd.symm.trans z9) (by decide))).symm)
    replace hP2 := (congrArg (fun z9 => va_P D vwCl z9 _) hq9).mp hP2
    replace hD2 := (congrArg (fun z9 => va_D _ z9) hq9).mp hD2
    clear hq9
    have hq9 : ([sO cy hh a kk dd b w ee qq ik] ++ (pS cy a (if cSh bi x1 = 7 then drwN S (minN (bstN (si (bstN x1))) (gcN S)) else S) ++ ([ia cy (hh 1) 7 (fnd C (cSh bi x1))] ++ (aS cy b P F N B O Sd Dv L rc re fr lo sm ++ (shB cy qq bi si f))))) = ([sO cy hh a kk dd b w ee qq ik] ++ (pS cy a (if cSh bi x1 = 7 then drwN S (minN (bstN (si (bstN x1))) (gcN S)) else S) ++ ([ia cy (hh 1) 7 (fnd C (cSh bi x1))] ++ (aS cy b P F N B O Sd Dv L rc re fr lo sm ++ (shB cy qq bi si (if cSh bi x1 = 7 then va_up f (bstN x1) (stkF S (f (bstN x1)) (minN (bstN (si (bstN x1))) (gcN S))) else f)))))) := congrArg (fun z9 => [sO cy hh a kk dd b w ee qq ik] ++ (pS cy a (if cSh bi x1 = 7 then drwN S (minN (bstN (si (bstN x1))) (gcN S)) else S) ++ ([ia cy (hh 1) 7 (fnd C (cSh bi x1))] ++ (aS cy b P F N B O Sd Dv L rc re fr lo sm ++ (shB cy qq bi si z9))))) (show f = (if cSh bi x1 = 7 then va_up f (bstN x1) (stkF S (f (bstN x1)) (minN (bstN (si (bstN x1))) (gcN S))) else f) from (if_neg (fun z9 => absurd (hcd.symm.trans z9) (by decide))).symm)
    replace hP2 := (congrArg (fun z9 => va_P D vwCl z9 _) hq9).mp hP2
    replace hD2 := (congrArg (fun z9 => va_D _ z9) hq9).mp hD2
    clear hq9
    refine re_i (P, F, N, B, O, Sd, Dv, L, rc, re, fr, lo, sm) hx hb hr hlocks hP2 hD2 hS2 dX6_sticks_13 ?_
    exact (ans_f hcd (by decide) rfl)

theorem kc_X6_lays : kV yX6_lays cX6_lays 7 (some .int) 1 := ⟨kw_4_18, kw_4_19, kw_1_1, kw_4_20, by decide, by decide, by decide +kernel⟩
set_option maxHeartbeats 4000000 in
set_option maxRecDepth 100000 in
theorem c_X6_lays (l : Launch) (D : va_G) (cy : Nat → ClassId) (G : Nat → Nat) (sz : Nat) (hh : Nat → Nat) (a : Nat → Nat) (kk : Nat → Nat) (dd : Nat → Nat) (b : Nat → Nat) (w : Nat → Nat) (ee : Nat → Nat) (qq : Nat → Nat) (ik : Int32) (S : Nat → Int32) (C : Nat → Int32) (bi : Nat → Int32) (si : Nat → Int32) (f : Nat → Nat → Int64) (x1 : Int32) (hso : shOk si f) (wf : wf S) : Met l yX6_lays (wm yX6_lays cX6_lays 7 (some .int)) { frames := 1, cells := 0, slots := 0, locals := 21 } (va_Pc [.ref (hh 0), .int x1] (pr D (TY cy) G ([sO cy hh a kk dd b w ee qq ik] ++ (pS cy a S ++ ([ia cy (hh 1) 7 C] ++ (shB cy qq bi si f)))) sz)) (va_Qi (fun (r : Int32) (u : Unit) => r = ans (cSh bi x1) (nI (lysC (f (bstN x1)) (minN (bstN (si (bstN x1))) (gcN S))))) (fun (u : Unit) t => po D (va_A ([sO cy hh a kk dd b w ee qq ik] ++ (pS cy a S ++ ([ia cy (hh 1) 7 C] ++ (shB cy qq bi si f)))) sz) ([sO cy hh a kk dd b w ee qq ik] ++ (pS cy a (if cSh bi x1 = 7 then lysS (f (bstN x1)) S (minN (bstN (si (bstN x1))) (gcN S)) else S) ++ ([ia cy (hh 1) 7 (fnd C (cSh bi x1))] ++ (shB cy qq bi si f)))) t) (va_A ([sO cy hh a kk dd b w ee qq ik] ++ (pS cy a S ++ ([ia cy (hh 1) 7 C] ++ (shB cy qq bi si f)))) sz)) 0 0 (va_A ([sO cy hh a kk dd b w ee qq ik] ++ (pS cy a S ++ ([ia cy (hh 1) 7 C] ++ (shB cy qq bi si f)))) sz) := by
  refine mk_rw (by decide) RX6 rfl (Nat.le_of_ble_eq_true rfl) [(0, .ref (hh 0)), (1, .int x1)] rfl ?_
  intro p e s m below meth c hx hb hml hown hr hlocks hin hw hsz hA hG hK H0 locs0 hP0 hD0 hS0 ls0 hl0
  clear hin
  have hg20 := wf_g20 wf
  have hr6 := wf_r6 wf
  have hz0 := (hso 0 (by decide)).1
  have hz1 := (hso 1 (by decide)).1
  have hz2 := (hso 2 (by decide)).1
  have hz3 := (hso 3 (by decide)).1
  have hq0 := (hso 0 (by decide)).2.1
  have hq1 := (hso 1 (by decide)).2.1
  have hq2 := (hso 2 (by decide)).2.1
  have hq3 := (hso 3 (by decide)).2.1
  have hb0 : bstN 0 = 0 := rfl
  have hb1 : bstN 1 = 1 := rfl
  have hb2 : bstN 2 = 2 := rfl
  have hb3 : bstN 3 = 3 := rfl
  refine lv_aload_n hx hb dX6_lays_0 rfl (lv_at hl0 0 rfl) ?_
  refine lv_iload_n hx hb dX6_lays_1 rfl (lv_at hl0 1 rfl) ?_
  refine rV_i (wc := [sO cy hh a kk dd b w ee qq ik]) (rest := []) hx hb hml hown hw hG hK hP0 hS0 hA hl0 kc_X6_isSheet kw_3_128 [.int x1] (c_X6_isSheet l D cy G H0.size hh a kk dd b w ee qq ik x1) [0] rfl 0 rfl rfl rfl rfl rfl (Nat.le_of_ble_eq_true rfl) ⟨Nat.le_of_ble_eq_true rfl, Nat.le_of_ble_eq_true rfl⟩ dX6_lays_2 ⟨Nat.le_of_ble_eq_true rfl, Nat.le_of_ble_eq_true rfl⟩ (fun r_2 H1 locs1 hr_2 hP1 hS1 => ?_)
  have hD1 := hD0
  clear hP0 hD0 hS0 locs0 H0
  subst hr_2
  refine lb_ne (tgt := 14) hx hb dX6_lays_5 (by decide) (fun c_5 => ?_) (fun c_5 => ?_)
  · rcases in3 c_5 with rfl | rfl | rfl | rfl
    · refine lv_aload_n hx hb dX6_lays_14 rfl (lv_at hl0 0 rfl) ?_
      refine va_get (D := D) (ci := 6) (v := .ref (qq 0)) (C := RX6) (T := TX6) (N := 9) hx hb hw iX6 hown hK hP1 0 rfl rfl 7 (by decide) (hw _ kw_2_34) (fun _ h9 => h9) rfl dX6_lays_15 ?_
      refine lv_iload_n hx hb dX6_lays_18 rfl (lv_at hl0 1 rfl) ?_
      refine ald_q hx hb hK hP1 12 3 rfl rfl rfl 0 rfl (by first | omega | assumption) (by decide) (rfl) dX6_lays_19 ?_
      refine lv_astore_n (lv' := [(2, .ref (qq 1)), (0, .ref (hh 0)), (1, .int 0)]) hx hb dX6_lays_20 rfl hl0 (by decide) rfl (fun ls1 hl1 => ?_)
      clear hl0 ls0
      refine lv_aload_n hx hb dX6_lays_21 rfl (lv_at hl1 0 rfl) ?_
      refine va_get (D := D) (ci := 2) (v := .int (bi 0)) (C := RX2) (T := TX2) (N := 3) hx hb hw iX2 hown hK hP1 13 rfl rfl 1 (by decide) (hw _ kw_2_16) (fun _ h9 => h9) rfl dX6_lays_22 ?_
      refine lv_if_ne (tgt := 34) hx hb dX6_lays_25 (by decide) (fun c_25 => ?_) (fun c_25 => ?_)
      · refine lv_iconst (v := 0) hx hb dX6_lays_34 (by decide) ?_
        refine lv_istore_n (lv' := [(3, .int 0), (2, .ref (qq 1)), (0, .ref (hh 0)), (1, .int 0)]) hx hb dX6_lays_35 rfl hl1 (by decide) rfl (fun ls2 hl2 => ?_)
        clear hl1 ls1
        refine lv_iconst (v := 0) hx hb dX6_lays_36 (by decide) ?_
        refine lv_istore (lv' := [(4, .int 0), (3, .int 0), (2, .ref (qq 1)), (0, .ref (hh 0)), (1, .int 0)]) hx hb dX6_lays_37 hl2 (by decide) rfl (fun ls3 hl3 => ?_)
        clear hl2 ls2
        have hq9 : nI (lysC (f 0) 0) = 0 := rfl
        replace hl3 : lv_has ls3 7 [(4, .int 0), (3, .int (nI (lysC (f 0) 0))), (2, .ref (qq 1)), (0, .ref (hh 0)), (1, .int 0)] := (congrArg (fun z9 => lv_has ls3 7 [(4, .int 0), (3, .int z9), (2, .ref (qq 1)), (0, .ref (hh 0)), (1, .int 0)]) hq9).mpr hl3
        clear hq9
        have hq9 : ([sO cy hh a kk dd b w ee qq ik] ++ (pS cy a S ++ ([ia cy (hh 1) 7 C] ++ (shB cy qq bi si f)))) = ([sO cy hh a kk dd b w ee qq ik] ++ (pS cy a (lysS (f 0) S 0) ++ ([ia cy (hh 1) 7 C] ++ (shB cy qq bi si f)))) := congrArg (fun z9 => [sO cy hh a kk dd b w ee qq ik] ++ (pS cy a z9 ++ ([ia cy (hh 1) 7 C] ++ (shB cy qq bi si f)))) (show S = (lysS (f 0) S 0) from rfl)
        replace hP1 := (congrArg (fun z9 => va_P D vwCl z9 _) hq9).mp hP1
        replace hD1 := (congrArg (fun z9 => va_D _ z9) hq9).mp hD1
        clear hq9
        refine wlp (ι := Nat) (nL := 7) (fun x9 => (x9 ≤ gcN S) ∧ (x9 ≤ bstN (si 0))) (fun x9 => [sO cy hh a kk dd b w ee qq ik] ++ (pS cy a (lysS (f 0) S x9) ++ ([ia cy (hh 1) 7 C] ++ (shB cy qq bi si f)))) (fun x9 => [(4, .int (nI x9)), (3, .int (nI (lysC (f 0) x9))), (2, .ref (qq 1)), (0, .ref (hh 0)), (1, .int 0)]) (fun x9 => []) (fun x9 => gcN S - x9) 39 ?_ 0 (⟨by first | omega | assumption | rfl | simp_all, by first | omega | assumption | rfl | simp_all⟩) rfl hP1 hD1 hS1 (lv_sub hl3 [0, 1, 2, 3, 4] rfl)
        clear hP1 hD1 hS1 locs1 H1 hl3 ls3
        intro x9 hI ih_39 H2 locs2 ls4 hP2 hD2 hS2 hl4
        obtain ⟨i, rfl⟩ : ∃ z9, z9 = x9 := ⟨_, rfl⟩
        obtain ⟨hi, hi2⟩ := hI
        replace hi : i ≤ gcN S := hi
        replace hi2 : i ≤ bstN (si 0) := hi2
        replace hP2 : va_P D vwCl ([sO cy hh a kk dd b w ee qq ik] ++ (pS cy a (lysS (f 0) S i) ++ ([ia cy (hh 1) 7 C] ++ (shB cy qq bi si f)))) H2 := hP2
        replace hD2 : va_D (va_A _ sz) ([sO cy hh a kk dd b w ee qq ik] ++ (pS cy a (lysS (f 0) S i) ++ ([ia cy (hh 1) 7 C] ++ (shB cy qq bi si f)))) := hD2
        replace hl4 : lv_has ls4 7 [(4, .int (nI i)), (3, .int (nI (lysC (f 0) i))), (2, .ref (qq 1)), (0, .ref (hh 0)), (1, .int 0)] := hl4
        show W p l e _ s m _ below meth c _ _ _ _ _ (F0 m 39 ls4 [])
        refine lv_iload hx hb dX6_lays_39 (lv_at hl4 0 rfl) ?_
        refine lv_aload_n hx hb dX6_lays_41 rfl (lv_at hl4 2 rfl) ?_
        refine va_get (D := D) (ci := 2) (v := .int (si 0)) (C := RX2) (T := TX2) (N := 3) hx hb hw iX2 hown hK hP2 13 rfl rfl 2 (by decide) (hw _ kw_2_18) (fun _ h9 => h9) rfl dX6_lays_42 ?_
        refine tp (show (si 0) = nI (bstN (si 0)) from (hso 0 (by decide)).1) ?_
        refine ln_ge (tgt := 107) i (bstN (si 0)) rfl rfl (by omega) (by omega) hx hb dX6_lays_45 (by decide) (fun c_45 => ?_) (fun c_45 => ?_)
        · have hie : minN (bstN (si 0)) (gcN S) = i := minN_u (by omega) (by omega) (by omega)
          have hq9 : ([sO cy hh a kk dd b w ee qq ik] ++ (pS cy a (lysS (f 0) S i) ++ ([ia cy (hh 1) 7 C] ++ (shB cy qq bi si f)))) = ([sO cy hh a kk dd b w ee qq ik] ++ (pS cy a (lysS (f 0) S (minN (bstN (si 0)) (gcN S))) ++ ([ia cy (hh 1) 7 C] ++ (shB cy qq bi si f)))) := congrArg (fun z9 => [sO cy hh a kk dd b w ee qq ik] ++ (pS cy a z9 ++ ([ia cy (hh 1) 7 C] ++ (shB cy qq bi si f)))) (show (lysS (f 0) S i) = (lysS (f 0) S (minN (bstN (si 0)) (gcN S))) from by rw [hie])
          replace hP2 := (congrArg (fun z9 => va_P D vwCl z9 _) hq9).mp hP2
          replace hD2 := (congrArg (fun z9 => va_D _ z9) hq9).mp hD2
          clear hq9
          have hq9 : nI (lysC (f 0) (minN (bstN (si 0)) (gcN S))) = nI (lysC (f 0) i) := by rw [hie]
          replace hl4 : lv_has ls4 7 [(4, .int (nI i)), (3, .int (nI (lysC (f 0) (minN (bstN (si 0)) (gcN S))))), (2, .ref (qq 1)), (0, .ref (hh 0)), (1, .int 0)] := (congrArg (fun z9 => lv_has ls4 7 [(4, .int (nI i)), (3, .int z9), (2, .ref (qq 1)), (0, .ref (hh 0)), (1, .int 0)]) hq9).mpr hl4
          clear hq9
          refine lv_iload_n hx hb dX6_lays_107 rfl (lv_at hl4 1 rfl) ?_
          have hcd : cSh bi 0 = 7 := by unfold cSh; clear hx hb hml hown hr hlocks hw hsz hA hG hK hP2 hD2 hS2 hl4 ih_39; grind
          have hq9 : ([sO cy hh a kk dd b w ee qq ik] ++ (pS cy a (lysS (f 0) S (minN (bstN (si 0)) (gcN S))) ++ ([ia cy (hh 1) 7 C] ++ (shB cy qq bi si f)))) = ([sO cy hh a kk dd b w ee qq ik] ++ (pS cy a (lysS (f 0) S (minN (bstN (si 0)) (gcN S))) ++ ([ia cy (hh 1) 7 (fnd C (cSh bi 0))] ++ (shB cy qq bi si f)))) := congrArg (fun z9 => [sO cy hh a kk dd b w ee qq ik] ++ (pS cy a (lysS (f 0) S (minN (bstN (si 0)) (gcN S))) ++ ([ia cy (hh 1) 7 z9] ++ (shB cy qq bi si f)))) (show C = (fnd C (cSh bi 0)) from fnd_o hcd)
          replace hP2 := (congrArg (fun z9 => va_P D vwCl z9 _) hq9).mp hP2
          replace hD2 := (congrArg (fun z9 => va_D _ z9) hq9).mp hD2
          clear hq9
          have hq9 : ([sO cy hh a kk dd b w ee qq ik] ++ (pS cy a (lysS (f 0) S (minN (bstN (si 0)) (gcN S))) ++ ([ia cy (hh 1) 7 (fnd C (cSh bi 0))] ++ (shB cy qq bi si f)))) = ([sO cy hh a kk dd b w ee qq ik] ++ (pS cy a (if cSh bi 0 = 7 then lysS (f (bstN 0)) S (minN (bstN (si (bstN 0))) (gcN S)) else S) ++ ([ia cy (hh 1) 7 (fnd C (cSh bi 0))] ++ (shB cy qq bi si f)))) := congrArg (fun z9 => [sO cy hh a kk dd b w ee qq ik] ++ (pS cy a z9 ++ ([ia cy (hh 1) 7 (fnd C (cSh bi 0))] ++ (shB cy qq bi si f)))) (show (lysS (f 0) S (minN (bstN (si 0)) (gcN S))) = (if cSh bi 0 = 7 then lysS (f (bstN 0)) S (minN (bstN (si (bstN 0))) (gcN S)) else S) from by rw [if_pos hcd]; simp only [hb0, hb1, hb2, hb3])
          replace hP2 := (congrArg (fun z9 => va_P D vwCl z9 _) hq9).mp hP2
          replace hD2 := (congrArg (fun z9 => va_D _ z9) hq9).mp hD2
          clear hq9
          refine re_i () hx hb hr hlocks hP2 hD2 hS2 dX6_lays_108 ?_
          exact (ans_o hcd (by simp only [hb0, hb1, hb2, hb3]))
        · refine lv_iload hx hb dX6_lays_48 (lv_at hl4 0 rfl) ?_
          refine lv_aload_n hx hb dX6_lays_50 rfl (lv_at hl4 3 rfl) ?_
          refine va_get (D := D) (ci := 6) (v := .ref (a 0)) (C := RX6) (T := TX6) (N := 9) hx hb hw iX6 hown hK hP2 0 rfl rfl 0 (by decide) (hw _ kw_2_27) (fun _ h9 => h9) rfl dX6_lays_51 ?_
          refine va_get (D := D) (ci := 1) (v := .int ((lysS (f 0) S i) 1)) (C := RX1) (T := TX1) (N := 12) hx hb hw iX1 hown hK hP2 1 rfl rfl 1 (by decide) (hw _ kw_1_35) (fun _ h9 => h9) rfl dX6_lays_54 ?_
          refine tp (show ((lysS (f 0) S i) 1) = nI (gcN S) from (lysS_lo (f 0) S (by decide) i).trans (wf_g wf)) ?_
          refine ln_ge (tgt := 107) i (gcN S) rfl rfl (by omega) (by omega) hx hb dX6_lays_57 (by decide) (fun c_57 => ?_) (fun c_57 => ?_)
          · have hie : minN (bstN (si 0)) (gcN S) = i := minN_u (by omega) (by omega) (by omega)
            have hq9 : ([sO cy hh a kk dd b w ee qq ik] ++ (pS cy a (lysS (f 0) S i) ++ ([ia cy (hh 1) 7 C] ++ (shB cy qq bi si f)))) = ([sO cy hh a kk dd b w ee qq ik] ++ (pS cy a (lysS (f 0) S (minN (bstN (si 0)) (gcN S))) ++ ([ia cy (hh 1) 7 C] ++ (shB cy qq bi si f)))) := congrArg (fun z9 => [sO cy hh a kk dd b w ee qq ik] ++ (pS cy a z9 ++ ([ia cy (hh 1) 7 C] ++ (shB cy qq bi si f)))) (show (lysS (f 0) S i) = (lysS (f 0) S (minN (bstN (si 0)) (gcN S))) from by rw [hie])
            replace hP2 := (congrArg (fun z9 => va_P D vwCl z9 _) hq9).mp hP2
            replace hD2 := (congrArg (fun z9 => va_D _ z9) hq9).mp hD2
            clear hq9
            have hq9 : nI (lysC (f 0) (minN (bstN (si 0)) (gcN S))) = nI (lysC (f 0) i) := by rw [hie]
            replace hl4 : lv_has ls4 7 [(4, .int (nI i)), (3, .int (nI (lysC (f 0) (minN (bstN (si 0)) (gcN S))))), (2, .ref (qq 1)), (0, .ref (hh 0)), (1, .int 0)] := (congrArg (fun z9 => lv_has ls4 7 [(4, .int (nI i)), (3, .int z9), (2, .ref (qq 1)), (0, .ref (hh 0)), (1, .int 0)]) hq9).mpr hl4
            clear hq9
            refine lv_iload_n hx hb dX6_lays_107 rfl (lv_at hl4 1 rfl) ?_
            have hcd : cSh bi 0 = 7 := by unfold cSh; clear hx hb hml hown hr hlocks hw hsz hA hG hK hP2 hD2 hS2 hl4 ih_39; grind
            have hq9 : ([sO cy hh a kk dd b w ee qq ik] ++ (pS cy a (lysS (f 0) S (minN (bstN (si 0)) (gcN S))) ++ ([ia cy (hh 1) 7 C] ++ (shB cy qq bi si f)))) = ([sO cy hh a kk dd b w ee qq ik] ++ (pS cy a (lysS (f 0) S (minN (bstN (si 0)) (gcN S))) ++ ([ia cy (hh 1) 7 (fnd C (cSh bi 0))] ++ (shB cy qq bi si f)))) := congrArg (fun z9 => [sO cy hh a kk dd b w ee qq ik] ++ (pS cy a (lysS (f 0) S (minN (bstN (si 0)) (gcN S))) ++ ([ia cy (hh 1) 7 z9] ++ (shB cy qq bi si f)))) (show C = (fnd C (cSh bi 0)) from fnd_o hcd)
            replace hP2 := (congrArg (fun z9 => va_P D vwCl z9 _) hq9).mp hP2
            replace hD2 := (congrArg (fun z9 => va_D _ z9) hq9).mp hD2
            clear hq9
            have hq9 : ([sO cy hh a kk dd b w ee qq ik] ++ (pS cy a (lysS (f 0) S (minN (bstN (si 0)) (gcN S))) ++ ([ia cy (hh 1) 7 (fnd C (cSh bi 0))] ++ (shB cy qq bi si f)))) = ([sO cy hh a kk dd b w ee qq ik] ++ (pS cy a (if cSh bi 0 = 7 then lysS (f (bstN 0)) S (minN (bstN (si (bstN 0))) (gcN S)) else S) ++ ([ia cy (hh 1) 7 (fnd C (cSh bi 0))] ++ (shB cy qq bi si f)))) := congrArg (fun z9 => [sO cy hh a kk dd b w ee qq ik] ++ (pS cy a z9 ++ ([ia cy (hh 1) 7 (fnd C (cSh bi 0))] ++ (shB cy qq bi si f)))) (show (lysS (f 0) S (minN (bstN (si 0)) (gcN S))) = (if cSh bi 0 = 7 then lysS (f (bstN 0)) S (minN (bstN (si (bstN 0))) (gcN S)) else S) from by rw [if_pos hcd]; simp only [hb0, hb1, hb2, hb3])
            replace hP2 := (congrArg (fun z9 => va_P D vwCl z9 _) hq9).mp hP2
            replace hD2 := (congrArg (fun z9 => va_D _ z9) hq9).mp hD2
            clear hq9
            refine re_i () hx hb hr hlocks hP2 hD2 hS2 dX6_lays_108 ?_
            exact (ans_o hcd (by simp only [hb0, hb1, hb2, hb3]))
          · refine lv_aload_n hx hb dX6_lays_60 rfl (lv_at hl4 2 rfl) ?_
            refine va_get (D := D) (ci := 2) (v := .ref (qq 5)) (C := RX2) (T := TX2) (N := 3) hx hb hw iX2 hown hK hP2 13 rfl rfl 0 (by decide) (hw _ kw_2_14) (fun _ h9 => h9) rfl dX6_lays_61 ?_
            refine lv_iload hx hb dX6_lays_64 (lv_at hl4 0 rfl) ?_
            refine ald_l (f := f 0) hx hb hK hP2 17 1 rfl rfl i rfl (by first | omega | assumption) (by decide) dX6_lays_66 ?_
            refine lv_lstore (lv' := [(5, .long (f 0 i)), (4, .int (nI i)), (3, .int (nI (lysC (f 0) i))), (2, .ref (qq 1)), (0, .ref (hh 0)), (1, .int 0)]) hx hb dX6_lays_67 hl4 (by decide) rfl (fun ls5 hl5 => ?_)
            clear hl4 ls4
            refine lv_lload hx hb dX6_lays_69 (lv_at hl5 0 rfl) ?_
            refine lv_lconst (v := 0) hx hb dX6_lays_71 (by decide) ?_
            refine W.lcmp hx hb dX6_lays_72 ?_
            refine lv_if_lt (tgt := 101) hx hb dX6_lays_73 (by decide) (fun c_73 => ?_) (fun c_73 => ?_)
            · have hin : ¬ (0 ≤ f 0 i ∧ f 0 i ≤ 99) := fun z9 => (lt_in.mpr z9).1 c_73
              have hq9 : ([sO cy hh a kk dd b w ee qq ik] ++ (pS cy a (lysS (f 0) S i) ++ ([ia cy (hh 1) 7 C] ++ (shB cy qq bi si f)))) = ([sO cy hh a kk dd b w ee qq ik] ++ (pS cy a (lysS (f 0) S (i + 1)) ++ ([ia cy (hh 1) 7 C] ++ (shB cy qq bi si f)))) := congrArg (fun z9 => [sO cy hh a kk dd b w ee qq ik] ++ (pS cy a z9 ++ ([ia cy (hh 1) 7 C] ++ (shB cy qq bi si f)))) (show (lysS (f 0) S i) = (lysS (f 0) S (i + 1)) from (if_neg hin).symm)
              replace hP2 := (congrArg (fun z9 => va_P D vwCl z9 _) hq9).mp hP2
              replace hD2 := (congrArg (fun z9 => va_D _ z9) hq9).mp hD2
              clear hq9
              have hq9 : nI (lysC (f 0) (i + 1)) = nI (lysC (f 0) i) := congrArg nI (if_neg hin)
              replace hl5 : lv_has ls5 7 [(5, .long (f 0 i)), (4, .int (nI i)), (3, .int (nI (lysC (f 0) (i + 1)))), (2, .ref (qq 1)), (0, .ref (hh 0)), (1, .int 0)] := (congrArg (fun z9 => lv_has ls5 7 [(5, .long (f 0 i)), (4, .int (nI i)), (3, .int z9), (2, .ref (qq 1)), (0, .ref (hh 0)), (1, .int 0)]) hq9).mpr hl5
              clear hq9
              refine lv_iinc (v := nI (i + 1)) (lv' := [(4, .int (nI (i + 1))), (5, .long (f 0 i)), (3, .int (nI (lysC (f 0) (i + 1)))), (2, .ref (qq 1)), (0, .ref (hh 0)), (1, .int 0)]) hx hb dX6_lays_101 hl5 (k := 1) rfl (nI_inc _) (by decide) rfl (fun ls6 hl6 => ?_)
              clear hl5 ls5
              refine lv_goto (tgt := 39) hx hb dX6_lays_104 (by decide) ?_
              exact ih_39 (i + 1) (⟨by first | omega | assumption | rfl | simp_all, by first | omega | assumption | rfl | simp_all⟩) (by (try dsimp only); omega) H2 locs2 ls6 hP2 hD2 hS2 (lv_sub hl6 [0, 2, 3, 4, 5] rfl)
            · refine lv_lload hx hb dX6_lays_76 (lv_at hl5 0 rfl) ?_
              refine lv_ldc2 (v := 99) hx hb hown (hw _ kw_4_21) dX6_lays_78 ?_
              refine W.lcmp hx hb dX6_lays_81 ?_
              refine lv_if_gt (tgt := 101) hx hb dX6_lays_82 (by decide) (fun c_82 => ?_) (fun c_82 => ?_)
              · have hin : ¬ (0 ≤ f 0 i ∧ f 0 i ≤ 99) := fun z9 => (lt_in.mpr z9).2 c_82
                have hq9 : ([sO cy hh a kk dd b w ee qq ik] ++ (pS cy a (lysS (f 0) S i) ++ ([ia cy (hh 1) 7 C] ++ (shB cy qq bi si f)))) = ([sO cy hh a kk dd b w ee qq ik] ++ (pS cy a (lysS (f 0) S (i + 1)) ++ ([ia cy (hh 1) 7 C] ++ (shB cy qq bi si f)))) := congrArg (fun z9 => [sO cy hh a kk dd b w ee qq ik] ++ (pS cy a z9 ++ ([ia cy (hh 1) 7 C] ++ (shB cy qq bi si f)))) (show (lysS (f 0) S i) = (lysS (f 0) S (i + 1)) from (if_neg hin).symm)
                replace hP2 := (congrArg (fun z9 => va_P D vwCl z9 _) hq9).mp hP2
                replace hD2 := (congrArg (fun z9 => va_D _ z9) hq9).mp hD2
                clear hq9
                have hq9 : nI (lysC (f 0) (i + 1)) = nI (lysC (f 0) i) := congrArg nI (if_neg hin)
                replace hl5 : lv_has ls5 7 [(5, .long (f 0 i)), (4, .int (nI i)), (3, .int (nI (lysC (f 0) (i + 1)))), (2, .ref (qq 1)), (0, .ref (hh 0)), (1, .int 0)] := (congrArg (fun z9 => lv_has ls5 7 [(5, .long (f 0 i)), (4, .int (nI i)), (3, .int z9), (2, .ref (qq 1)), (0, .ref (hh 0)), (1, .int 0)]) hq9).mpr hl5
                clear hq9
                refine lv_iinc (v := nI (i + 1)) (lv' := [(4, .int (nI (i + 1))), (5, .long (f 0 i)), (3, .int (nI (lysC (f 0) (i + 1)))), (2, .ref (qq 1)), (0, .ref (hh 0)), (1, .int 0)]) hx hb dX6_lays_101 hl5 (k := 1) rfl (nI_inc _) (by decide) rfl (fun ls6 hl6 => ?_)
                clear hl5 ls5
                refine lv_goto (tgt := 39) hx hb dX6_lays_104 (by decide) ?_
                exact ih_39 (i + 1) (⟨by first | omega | assumption | rfl | simp_all, by first | omega | assumption | rfl | simp_all⟩) (by (try dsimp only); omega) H2 locs2 ls6 hP2 hD2 hS2 (lv_sub hl6 [0, 2, 3, 4, 5] rfl)
              · refine lv_aload_n hx hb dX6_lays_85 rfl (lv_at hl5 4 rfl) ?_
                refine va_get (D := D) (ci := 6) (v := .ref (a 0)) (C := RX6) (T := TX6) (N := 9) hx hb hw iX6 hown hK hP2 0 rfl rfl 0 (by decide) (hw _ kw_2_27) (fun _ h9 => h9) rfl dX6_lays_86 ?_
                refine va_get (D := D) (ci := 1) (v := .ref (a 4)) (C := RX1) (T := TX1) (N := 12) hx hb hw iX1 hown hK hP2 1 rfl rfl 5 (by decide) (hw _ kw_1_49) (fun _ h9 => h9) rfl dX6_lays_89 ?_
                refine lv_iload hx hb dX6_lays_92 (lv_at hl5 1 rfl) ?_
                refine lv_lload hx hb dX6_lays_94 (lv_at hl5 0 rfl) ?_
                refine lv_l2i hx hb dX6_lays_96 rfl ?_
                refine ast_i (f := fun g => (lysS (f 0) S i) (12 + 8 * g)) (ws' := [sO cy hh a kk dd b w ee qq ik] ++ (pS cy a (upd (lysS (f 0) S i) (12 + 8 * i) ((f 0 i).toInt32)) ++ ([ia cy (hh 1) 7 C] ++ (shB cy qq bi si f)))) hx hb hK hP2 hD2 hS2 5 0 rfl rfl i rfl (by first | omega | assumption) (by decide) (congrArg (fun z => [sO cy hh a kk dd b w ee qq ik] ++ (z ++ ([ia cy (hh 1) 7 C] ++ (shB cy qq bi si f)))) (pS_a3 cy a (lysS (f 0) S i) i ((f 0 i).toInt32))) dX6_lays_97 (fun H3 locs3 hP3 hD3 hS3 => ?_)
                clear hP2 hD2 hS2 locs2 H2
                refine lv_iinc (v := nI (lysC (f 0) i + 1)) (lv' := [(3, .int (nI (lysC (f 0) i + 1))), (5, .long (f 0 i)), (4, .int (nI i)), (2, .ref (qq 1)), (0, .ref (hh 0)), (1, .int 0)]) hx hb dX6_lays_98 hl5 (k := 2) rfl (nI_inc _) (by decide) rfl (fun ls6 hl6 => ?_)
                clear hl5 ls5
                have hin := lt_in.mp ⟨c_73, c_82⟩
                have hq9 : ([sO cy hh a kk dd b w ee qq ik] ++ (pS cy a (upd (lysS (f 0) S i) (12 + 8 * i) ((f 0 i).toInt32)) ++ ([ia cy (hh 1) 7 C] ++ (shB cy qq bi si f)))) = ([sO cy hh a kk dd b w ee qq ik] ++ (pS cy a (lysS (f 0) S (i + 1)) ++ ([ia cy (hh 1) 7 C] ++ (shB cy qq bi si f)))) := congrArg (fun z9 => [sO cy hh a kk dd b w ee qq ik] ++ (pS cy a z9 ++ ([ia cy (hh 1) 7 C] ++ (shB cy qq bi si f)))) (show (upd (lysS (f 0) S i) (12 + 8 * i) ((f 0 i).toInt32)) = (lysS (f 0) S (i + 1)) from (if_pos hin).symm)
                replace hP3 := (congrArg (fun z9 => va_P D vwCl z9 _) hq9).mp hP3
                replace hD3 := (congrArg (fun z9 => va_D _ z9) hq9).mp hD3
                clear hq9
                have hq9 : nI (lysC (f 0) (i + 1)) = nI (lysC (f 0) i + 1) := congrArg nI (if_pos hin)
                replace hl6 : lv_has ls6 7 [(3, .int (nI (lysC (f 0) (i + 1)))), (5, .long (f 0 i)), (4, .int (nI i)), (2, .ref (qq 1)), (0, .ref (hh 0)), (1, .int 0)] := (congrArg (fun z9 => lv_has ls6 7 [(3, .int z9), (5, .long (f 0 i)), (4, .int (nI i)), (2, .ref (qq 1)), (0, .ref (hh 0)), (1, .int 0)]) hq9).mpr hl6
                clear hq9
                refine lv_iinc (v := nI (i + 1)) (lv' := [(4, .int (nI (i + 1))), (3, .int (nI (lysC (f 0) (i + 1)))), (5, .long (f 0 i)), (2, .ref (qq 1)), (0, .ref (hh 0)), (1, .int 0)]) hx hb dX6_lays_101 hl6 (k := 2) rfl (nI_inc _) (by decide) rfl (fun ls7 hl7 => ?_)
                clear hl6 ls6
                refine lv_goto (tgt := 39) hx hb dX6_lays_104 (by decide) ?_
                exact ih_39 (i + 1) (⟨by first | omega | assumption | rfl | simp_all, by first | omega | assumption | rfl | simp_all⟩) (by (try dsimp only); omega) H3 locs3 ls7 hP3 hD3 hS3 (lv_sub hl7 [0, 1, 3, 4, 5] rfl)
      · refine lv_aload_n hx hb dX6_lays_28 rfl (lv_at hl1 1 rfl) ?_
        refine lv_iconst (v := 5) hx hb dX6_lays_29 (by decide) ?_
        refine cV_i (wc := [sO cy hh a kk dd b w ee qq ik, ia cy (hh 1) 7 C]) (wr := pS cy a S ++ (shB cy qq bi si f)) (rest := []) hx hb hml hown hw hG hK hP1 hD1 hS1 hA hl1 kc_X6_find kw_2_59 [.int 5] (c_X6_find l D cy G H1.size hh a kk dd b w ee qq ik C 5 (by first | omega | assumption)) [0, 11] [1, 2, 3, 4, 5, 6, 7, 8, 9, 10, 12, 13, 14, 15, 16, 17, 18, 19, 20] rfl rfl rfl rfl rfl 0 rfl rfl rfl rfl rfl (Nat.le_of_ble_eq_true rfl) ⟨Nat.le_of_ble_eq_true rfl, Nat.le_of_ble_eq_true rfl⟩ dX6_lays_30 ⟨Nat.le_of_ble_eq_true rfl, Nat.le_of_ble_eq_true rfl⟩ (fun r_30 u9 H2 locs2 hu9 hP2 hD2 hS2 => ?_)
        clear hP1 hD1 hS1 locs1 H1
        have hr_30 := hu9
        replace hP2 : va_P D vwCl (pS cy a S ++ (shB cy qq bi si f ++ ([sO cy hh a kk dd b w ee qq ik, ia cy (hh 1) 7 (upd C 5 (C 5 + 1))]))) H2 := hP2
        replace hD2 : va_D (va_A _ sz) (pS cy a S ++ (shB cy qq bi si f ++ ([sO cy hh a kk dd b w ee qq ik, ia cy (hh 1) 7 (upd C 5 (C 5 + 1))]))) := hD2
        replace hP2 := hP2.sub (ws' := [sO cy hh a kk dd b w ee qq ik] ++ (pS cy a S ++ ([ia cy (hh 1) 7 (upd C 5 (C 5 + 1))] ++ (shB cy qq bi si f)))) [19, 0, 1, 2, 3, 4, 5, 6, 7, 8, 9, 20, 10, 11, 12, 13, 14, 15, 16, 17, 18] rfl
        replace hD2 := hD2.sub (ws' := [sO cy hh a kk dd b w ee qq ik] ++ (pS cy a S ++ ([ia cy (hh 1) 7 (upd C 5 (C 5 + 1))] ++ (shB cy qq bi si f)))) [19, 0, 1, 2, 3, 4, 5, 6, 7, 8, 9, 20, 10, 11, 12, 13, 14, 15, 16, 17, 18] (by decide) rfl
        subst hr_30
        have hcd : cSh bi 0 = 5 := by unfold cSh; clear hx hb hml hown hr hlocks hw hsz hA hG hK hP2 hD2 hS2 hl1; grind
        have hq9 : ([sO cy hh a kk dd b w ee qq ik] ++ (pS cy a S ++ ([ia cy (hh 1) 7 (upd C 5 (C 5 + 1))] ++ (shB cy qq bi si f)))) = ([sO cy hh a kk dd b w ee qq ik] ++ (pS cy a S ++ ([ia cy (hh 1) 7 (fnd C (cSh bi 0))] ++ (shB cy qq bi si f)))) := congrArg (fun z9 => [sO cy hh a kk dd b w ee qq ik] ++ (pS cy a S ++ ([ia cy (hh 1) 7 z9] ++ (shB cy qq bi si f)))) (show (upd C 5 (C 5 + 1)) = (fnd C (cSh bi 0)) from fnd_f hcd (by decide))
        replace hP2 := (congrArg (fun z9 => va_P D vwCl z9 _) hq9).mp hP2
        replace hD2 := (congrArg (fun z9 => va_D _ z9) hq9).mp hD2
        clear hq9
        have hq9 : ([sO cy hh a kk dd b w ee qq ik] ++ (pS cy a S ++ ([ia cy (hh 1) 7 (fnd C (cSh bi 0))] ++ (shB cy qq bi si f)))) = ([sO cy hh a kk dd b w ee qq ik] ++ (pS cy a (if cSh bi 0 = 7 then lysS (f (bstN 0)) S (minN (bstN (si (bstN 0))) (gcN S)) else S) ++ ([ia cy (hh 1) 7 (fnd C (cSh bi 0))] ++ (shB cy qq bi si f)))) := congrArg (fun z9 => [sO cy hh a kk dd b w ee qq ik] ++ (pS cy a z9 ++ ([ia cy (hh 1) 7 (fnd C (cSh bi 0))] ++ (shB cy qq bi si f)))) (show S = (if cSh bi 0 = 7 then lysS (f (bstN 0)) S (minN (bstN (si (bstN 0))) (gcN S)) else S) from (if_neg (fun z9 => absurd (hcd.symm.trans z9) (by decide))).symm)
        replace hP2 := (congrArg (fun z9 => va_P D vwCl z9 _) hq9).mp hP2
        replace hD2 := (congrArg (fun z9 => va_D _ z9) hq9).mp hD2
        clear hq9
        refine re_i () hx hb hr hlocks hP2 hD2 hS2 dX6_lays_33 ?_
        exact (ans_f hcd (by decide) rfl)
    · refine lv_aload_n hx hb dX6_lays_14 rfl (lv_at hl0 0 rfl) ?_
      refine va_get (D := D) (ci := 6) (v := .ref (qq 0)) (C := RX6) (T := TX6) (N := 9) hx hb hw iX6 hown hK hP1 0 rfl rfl 7 (by decide) (hw _ kw_2_34) (fun _ h9 => h9) rfl dX6_lays_15 ?_
      refine lv_iload_n hx hb dX6_lays_18 rfl (lv_at hl0 1 rfl) ?_
      refine ald_q hx hb hK hP1 12 3 rfl rfl rfl 1 rfl (by first | omega | assumption) (by decide) (rfl) dX6_lays_19 ?_
      refine lv_astore_n (lv' := [(2, .ref (qq 2)), (0, .ref (hh 0)), (1, .int 1)]) hx hb dX6_lays_20 rfl hl0 (by decide) rfl (fun ls1 hl1 => ?_)
      clear hl0 ls0
      refine lv_aload_n hx hb dX6_lays_21 rfl (lv_at hl1 0 rfl) ?_
      refine va_get (D := D) (ci := 2) (v := .int (bi 1)) (C := RX2) (T := TX2) (N := 3) hx hb hw iX2 hown hK hP1 14 rfl rfl 1 (by decide) (hw _ kw_2_16) (fun _ h9 => h9) rfl dX6_lays_22 ?_
      refine lv_if_ne (tgt := 34) hx hb dX6_lays_25 (by decide) (fun c_25 => ?_) (fun c_25 => ?_)
      · refine lv_iconst (v := 0) hx hb dX6_lays_34 (by decide) ?_
        refine lv_istore_n (lv' := [(3, .int 0), (2, .ref (qq 2)), (0, .ref (hh 0)), (1, .int 1)]) hx hb dX6_lays_35 rfl hl1 (by decide) rfl (fun ls2 hl2 => ?_)
        clear hl1 ls1
        refine lv_iconst (v := 0) hx hb dX6_lays_36 (by decide) ?_
        refine lv_istore (lv' := [(4, .int 0), (3, .int 0), (2, .ref (qq 2)), (0, .ref (hh 0)), (1, .int 1)]) hx hb dX6_lays_37 hl2 (by decide) rfl (fun ls3 hl3 => ?_)
        clear hl2 ls2
        have hq9 : nI (lysC (f 1) 0) = 0 := rfl
        replace hl3 : lv_has ls3 7 [(4, .int 0), (3, .int (nI (lysC (f 1) 0))), (2, .ref (qq 2)), (0, .ref (hh 0)), (1, .int 1)] := (congrArg (fun z9 => lv_has ls3 7 [(4, .int 0), (3, .int z9), (2, .ref (qq 2)), (0, .ref (hh 0)), (1, .int 1)]) hq9).mpr hl3
        clear hq9
        have hq9 : ([sO cy hh a kk dd b w ee qq ik] ++ (pS cy a S ++ ([ia cy (hh 1) 7 C] ++ (shB cy qq bi si f)))) = ([sO cy hh a kk dd b w ee qq ik] ++ (pS cy a (lysS (f 1) S 0) ++ ([ia cy (hh 1) 7 C] ++ (shB cy qq bi si f)))) := congrArg (fun z9 => [sO cy hh a kk dd b w ee qq ik] ++ (pS cy a z9 ++ ([ia cy (hh 1) 7 C] ++ (shB cy qq bi si f)))) (show S = (lysS (f 1) S 0) from rfl)
        replace hP1 := (congrArg (fun z9 => va_P D vwCl z9 _) hq9).mp hP1
        replace hD1 := (congrArg (fun z9 => va_D _ z9) hq9).mp hD1
        clear hq9
        refine wlp (ι := Nat) (nL := 7) (fun x9 => (x9 ≤ gcN S) ∧ (x9 ≤ bstN (si 1))) (fun x9 => [sO cy hh a kk dd b w ee qq ik] ++ (pS cy a (lysS (f 1) S x9) ++ ([ia cy (hh 1) 7 C] ++ (shB cy qq bi si f)))) (fun x9 => [(4, .int (nI x9)), (3, .int (nI (lysC (f 1) x9))), (2, .ref (qq 2)), (0, .ref (hh 0)), (1, .int 1)]) (fun x9 => []) (fun x9 => gcN S - x9) 39 ?_ 0 (⟨by first | omega | assumption | rfl | simp_all, by first | omega | assumption | rfl | simp_all⟩) rfl hP1 hD1 hS1 (lv_sub hl3 [0, 1, 2, 3, 4] rfl)
        clear hP1 hD1 hS1 locs1 H1 hl3 ls3
        intro x9 hI ih_39 H2 locs2 ls4 hP2 hD2 hS2 hl4
        obtain ⟨i, rfl⟩ : ∃ z9, z9 = x9 := ⟨_, rfl⟩
        obtain ⟨hi, hi2⟩ := hI
        replace hi : i ≤ gcN S := hi
        replace hi2 : i ≤ bstN (si 1) := hi2
        replace hP2 : va_P D vwCl ([sO cy hh a kk dd b w ee qq ik] ++ (pS cy a (lysS (f 1) S i) ++ ([ia cy (hh 1) 7 C] ++ (shB cy qq bi si f)))) H2 := hP2
        replace hD2 : va_D (va_A _ sz) ([sO cy hh a kk dd b w ee qq ik] ++ (pS cy a (lysS (f 1) S i) ++ ([ia cy (hh 1) 7 C] ++ (shB cy qq bi si f)))) := hD2
        replace hl4 : lv_has ls4 7 [(4, .int (nI i)), (3, .int (nI (lysC (f 1) i))), (2, .ref (qq 2)), (0, .ref (hh 0)), (1, .int 1)] := hl4
        show W p l e _ s m _ below meth c _ _ _ _ _ (F0 m 39 ls4 [])
        refine lv_iload hx hb dX6_lays_39 (lv_at hl4 0 rfl) ?_
        refine lv_aload_n hx hb dX6_lays_41 rfl (lv_at hl4 2 rfl) ?_
        refine va_get (D := D) (ci := 2) (v := .int (si 1)) (C := RX2) (T := TX2) (N := 3) hx hb hw iX2 hown hK hP2 14 rfl rfl 2 (by decide) (hw _ kw_2_18) (fun _ h9 => h9) rfl dX6_lays_42 ?_
        refine tp (show (si 1) = nI (bstN (si 1)) from (hso 1 (by decide)).1) ?_
        refine ln_ge (tgt := 107) i (bstN (si 1)) rfl rfl (by omega) (by omega) hx hb dX6_lays_45 (by decide) (fun c_45 => ?_) (fun c_45 => ?_)
        · have hie : minN (bstN (si 1)) (gcN S) = i := minN_u (by omega) (by omega) (by omega)
          have hq9 : ([sO cy hh a kk dd b w ee qq ik] ++ (pS cy a (lysS (f 1) S i) ++ ([ia cy (hh 1) 7 C] ++ (shB cy qq bi si f)))) = ([sO cy hh a kk dd b w ee qq ik] ++ (pS cy a (lysS (f 1) S (minN (bstN (si 1)) (gcN S))) ++ ([ia cy (hh 1) 7 C] ++ (shB cy qq bi si f)))) := congrArg (fun z9 => [sO cy hh a kk dd b w ee qq ik] ++ (pS cy a z9 ++ ([ia cy (hh 1) 7 C] ++ (shB cy qq bi si f)))) (show (lysS (f 1) S i) = (lysS (f 1) S (minN (bstN (si 1)) (gcN S))) from by rw [hie])
          replace hP2 := (congrArg (fun z9 => va_P D vwCl z9 _) hq9).mp hP2
          replace hD2 := (congrArg (fun z9 => va_D _ z9) hq9).mp hD2
          clear hq9
          have hq9 : nI (lysC (f 1) (minN (bstN (si 1)) (gcN S))) = nI (lysC (f 1) i) := by rw [hie]
          replace hl4 : lv_has ls4 7 [(4, .int (nI i)), (3, .int (nI (lysC (f 1) (minN (bstN (si 1)) (gcN S))))), (2, .ref (qq 2)), (0, .ref (hh 0)), (1, .int 1)] := (congrArg (fun z9 => lv_has ls4 7 [(4, .int (nI i)), (3, .int z9), (2, .ref (qq 2)), (0, .ref (hh 0)), (1, .int 1)]) hq9).mpr hl4
          clear hq9
          refine lv_iload_n hx hb dX6_lays_107 rfl (lv_at hl4 1 rfl) ?_
          have hcd : cSh bi 1 = 7 := by unfold cSh; clear hx hb hml hown hr hlocks hw hsz hA hG hK hP2 hD2 hS2 hl4 ih_39; grind
          have hq9 : ([sO cy hh a kk dd b w ee qq ik] ++ (pS cy a (lysS (f 1) S (minN (bstN (si 1)) (gcN S))) ++ ([ia cy (hh 1) 7 C] ++ (shB cy qq bi si f)))) = ([sO cy hh a kk dd b w ee qq ik] ++ (pS cy a (lysS (f 1) S (minN (bstN (si 1)) (gcN S))) ++ ([ia cy (hh 1) 7 (fnd C (cSh bi 1))] ++ (shB cy qq bi si f)))) := congrArg (fun z9 => [sO cy hh a kk dd b w ee qq ik] ++ (pS cy a (lysS (f 1) S (minN (bstN (si 1)) (gcN S))) ++ ([ia cy (hh 1) 7 z9] ++ (shB cy qq bi si f)))) (show C = (fnd C (cSh bi 1)) from fnd_o hcd)
          replace hP2 := (congrArg (fun z9 => va_P D vwCl z9 _) hq9).mp hP2
          replace hD2 := (congrArg (fun z9 => va_D _ z9) hq9).mp hD2
          clear hq9
          have hq9 : ([sO cy hh a kk dd b w ee qq ik] ++ (pS cy a (lysS (f 1) S (minN (bstN (si 1)) (gcN S))) ++ ([ia cy (hh 1) 7 (fnd C (cSh bi 1))] ++ (shB cy qq bi si f)))) = ([sO cy hh a kk dd b w ee qq ik] ++ (pS cy a (if cSh bi 1 = 7 then lysS (f (bstN 1)) S (minN (bstN (si (bstN 1))) (gcN S)) else S) ++ ([ia cy (hh 1) 7 (fnd C (cSh bi 1))] ++ (shB cy qq bi si f)))) := congrArg (fun z9 => [sO cy hh a kk dd b w ee qq ik] ++ (pS cy a z9 ++ ([ia cy (hh 1) 7 (fnd C (cSh bi 1))] ++ (shB cy qq bi si f)))) (show (lysS (f 1) S (minN (bstN (si 1)) (gcN S))) = (if cSh bi 1 = 7 then lysS (f (bstN 1)) S (minN (bstN (si (bstN 1))) (gcN S)) else S) from by rw [if_pos hcd]; simp only [hb0, hb1, hb2, hb3])
          replace hP2 := (congrArg (fun z9 => va_P D vwCl z9 _) hq9).mp hP2
          replace hD2 := (congrArg (fun z9 => va_D _ z9) hq9).mp hD2
          clear hq9
          refine re_i () hx hb hr hlocks hP2 hD2 hS2 dX6_lays_108 ?_
          exact (ans_o hcd (by simp only [hb0, hb1, hb2, hb3]))
        · refine lv_iload hx hb dX6_lays_48 (lv_at hl4 0 rfl) ?_
          refine lv_aload_n hx hb dX6_lays_50 rfl (lv_at hl4 3 rfl) ?_
          refine va_get (D := D) (ci := 6) (v := .ref (a 0)) (C := RX6) (T := TX6) (N := 9) hx hb hw iX6 hown hK hP2 0 rfl rfl 0 (by decide) (hw _ kw_2_27) (fun _ h9 => h9) rfl dX6_lays_51 ?_
          refine va_get (D := D) (ci := 1) (v := .int ((lysS (f 1) S i) 1)) (C := RX1) (T := TX1) (N := 12) hx hb hw iX1 hown hK hP2 1 rfl rfl 1 (by decide) (hw _ kw_1_35) (fun _ h9 => h9) rfl dX6_lays_54 ?_
          refine tp (show ((lysS (f 1) S i) 1) = nI (gcN S) from (lysS_lo (f 1) S (by decide) i).trans (wf_g wf)) ?_
          refine ln_ge (tgt := 107) i (gcN S) rfl rfl (by omega) (by omega) hx hb dX6_lays_57 (by decide) (fun c_57 => ?_) (fun c_57 => ?_)
          · have hie : minN (bstN (si 1)) (gcN S) = i := minN_u (by omega) (by omega) (by omega)
            have hq9 : ([sO cy hh a kk dd b w ee qq ik] ++ (pS cy a (lysS (f 1) S i) ++ ([ia cy (hh 1) 7 C] ++ (shB cy qq bi si f)))) = ([sO cy hh a kk dd b w ee qq ik] ++ (pS cy a (lysS (f 1) S (minN (bstN (si 1)) (gcN S))) ++ ([ia cy (hh 1) 7 C] ++ (shB cy qq bi si f)))) := congrArg (fun z9 => [sO cy hh a kk dd b w ee qq ik] ++ (pS cy a z9 ++ ([ia cy (hh 1) 7 C] ++ (shB cy qq bi si f)))) (show (lysS (f 1) S i) = (lysS (f 1) S (minN (bstN (si 1)) (gcN S))) from by rw [hie])
            replace hP2 := (congrArg (fun z9 => va_P D vwCl z9 _) hq9).mp hP2
            replace hD2 := (congrArg (fun z9 => va_D _ z9) hq9).mp hD2
            clear hq9
            have hq9 : nI (lysC (f 1) (minN (bstN (si 1)) (gcN S))) = nI (lysC (f 1) i) := by rw [hie]
            replace hl4 : lv_has ls4 7 [(4, .int (nI i)), (3, .int (nI (lysC (f 1) (minN (bstN (si 1)) (gcN S))))), (2, .ref (qq 2)), (0, .ref (hh 0)), (1, .int 1)] := (congrArg (fun z9 => lv_has ls4 7 [(4, .int (nI i)), (3, .int z9), (2, .ref (qq 2)), (0, .ref (hh 0)), (1, .int 1)]) hq9).mpr hl4
            clear hq9
            refine lv_iload_n hx hb dX6_lays_107 rfl (lv_at hl4 1 rfl) ?_
            have hcd : cSh bi 1 = 7 := by unfold cSh; clear hx hb hml hown hr hlocks hw hsz hA hG hK hP2 hD2 hS2 hl4 ih_39; grind
            have hq9 : ([sO cy hh a kk dd b w ee qq ik] ++ (pS cy a (lysS (f 1) S (minN (bstN (si 1)) (gcN S))) ++ ([ia cy (hh 1) 7 C] ++ (shB cy qq bi si f)))) = ([sO cy hh a kk dd b w ee qq ik] ++ (pS cy a (lysS (f 1) S (minN (bstN (si 1)) (gcN S))) ++ ([ia cy (hh 1) 7 (fnd C (cSh bi 1))] ++ (shB cy qq bi si f)))) := congrArg (fun z9 => [sO cy hh a kk dd b w ee qq ik] ++ (pS cy a (lysS (f 1) S (minN (bstN (si 1)) (gcN S))) ++ ([ia cy (hh 1) 7 z9] ++ (shB cy qq bi si f)))) (show C = (fnd C (cSh bi 1)) from fnd_o hcd)
            replace hP2 := (congrArg (fun z9 => va_P D vwCl z9 _) hq9).mp hP2
            replace hD2 := (congrArg (fun z9 => va_D _ z9) hq9).mp hD2
            clear hq9
            have hq9 : ([sO cy hh a kk dd b w ee qq ik] ++ (pS cy a (lysS (f 1) S (minN (bstN (si 1)) (gcN S))) ++ ([ia cy (hh 1) 7 (fnd C (cSh bi 1))] ++ (shB cy qq bi si f)))) = ([sO cy hh a kk dd b w ee qq ik] ++ (pS cy a (if cSh bi 1 = 7 then lysS (f (bstN 1)) S (minN (bstN (si (bstN 1))) (gcN S)) else S) ++ ([ia cy (hh 1) 7 (fnd C (cSh bi 1))] ++ (shB cy qq bi si f)))) := congrArg (fun z9 => [sO cy hh a kk dd b w ee qq ik] ++ (pS cy a z9 ++ ([ia cy (hh 1) 7 (fnd C (cSh bi 1))] ++ (shB cy qq bi si f)))) (show (lysS (f 1) S (minN (bstN (si 1)) (gcN S))) = (if cSh bi 1 = 7 then lysS (f (bstN 1)) S (minN (bstN (si (bstN 1))) (gcN S)) else S) from by rw [if_pos hcd]; simp only [hb0, hb1, hb2, hb3])
            replace hP2 := (congrArg (fun z9 => va_P D vwCl z9 _) hq9).mp hP2
            replace hD2 := (congrArg (fun z9 => va_D _ z9) hq9).mp hD2
            clear hq9
            refine re_i () hx hb hr hlocks hP2 hD2 hS2 dX6_lays_108 ?_
            exact (ans_o hcd (by simp only [hb0, hb1, hb2, hb3]))
          · refine lv_aload_n hx hb dX6_lays_60 rfl (lv_at hl4 2 rfl) ?_
            refine va_get (D := D) (ci := 2) (v := .ref (qq 6)) (C := RX2) (T := TX2) (N := 3) hx hb hw iX2 hown hK hP2 14 rfl rfl 0 (by decide) (hw _ kw_2_14) (fun _ h9 => h9) rfl dX6_lays_61 ?_
            refine lv_iload hx hb dX6_lays_64 (lv_at hl4 0 rfl) ?_
            refine ald_l (f := f 1) hx hb hK hP2 18 1 rfl rfl i rfl (by first | omega | assumption) (by decide) dX6_lays_66 ?_
            refine lv_lstore (lv' := [(5, .long (f 1 i)), (4, .int (nI i)), (3, .int (nI (lysC (f 1) i))), (2, .ref (qq 2)), (0, .ref (hh 0)), (1, .int 1)]) hx hb dX6_lays_67 hl4 (by decide) rfl (fun ls5 hl5 => ?_)
            clear hl4 ls4
            refine lv_lload hx hb dX6_lays_69 (lv_at hl5 0 rfl) ?_
            refine lv_lconst (v := 0) hx hb dX6_lays_71 (by decide) ?_
            refine W.lcmp hx hb dX6_lays_72 ?_
            refine lv_if_lt (tgt := 101) hx hb dX6_lays_73 (by decide) (fun c_73 => ?_) (fun c_73 => ?_)
            · have hin : ¬ (0 ≤ f 1 i ∧ f 1 i ≤ 99) := fun z9 => (lt_in.mpr z9).1 c_73
              have hq9 : ([sO cy hh a kk dd b w ee qq ik] ++ (pS cy a (lysS (f 1) S i) ++ ([ia cy (hh 1) 7 C] ++ (shB cy qq bi si f)))) = ([sO cy hh a kk dd b w ee qq ik] ++ (pS cy a (lysS (f 1) S (i + 1)) ++ ([ia cy (hh 1) 7 C] ++ (shB cy qq bi si f)))) := congrArg (fun z9 => [sO cy hh a kk dd b w ee qq ik] ++ (pS cy a z9 ++ ([ia cy (hh 1) 7 C] ++ (shB cy qq bi si f)))) (show (lysS (f 1) S i) = (lysS (f 1) S (i + 1)) from (if_neg hin).symm)
              replace hP2 := (congrArg (fun z9 => va_P D vwCl z9 _) hq9).mp hP2
              replace hD2 := (congrArg (fun z9 => va_D _ z9) hq9).mp hD2
              clear hq9
              have hq9 : nI (lysC (f 1) (i + 1)) = nI (lysC (f 1) i) := congrArg nI (if_neg hin)
              replace hl5 : lv_has ls5 7 [(5, .long (f 1 i)), (4, .int (nI i)), (3, .int (nI (lysC (f 1) (i + 1)))), (2, .ref (qq 2)), (0, .ref (hh 0)), (1, .int 1)] := (congrArg (fun z9 => lv_has ls5 7 [(5, .long (f 1 i)), (4, .int (nI i)), (3, .int z9), (2, .ref (qq 2)), (0, .ref (hh 0)), (1, .int 1)]) hq9).mpr hl5
              clear hq9
              refine lv_iinc (v := nI (i + 1)) (lv' := [(4, .int (nI (i + 1))), (5, .long (f 1 i)), (3, .int (nI (lysC (f 1) (i + 1)))), (2, .ref (qq 2)), (0, .ref (hh 0)), (1, .int 1)]) hx hb dX6_lays_101 hl5 (k := 1) rfl (nI_inc _) (by decide) rfl (fun ls6 hl6 => ?_)
              clear hl5 ls5
              refine lv_goto (tgt := 39) hx hb dX6_lays_104 (by decide) ?_
              exact ih_39 (i + 1) (⟨by first | omega | assumption | rfl | simp_all, by first | omega | assumption | rfl | simp_all⟩) (by (try dsimp only); omega) H2 locs2 ls6 hP2 hD2 hS2 (lv_sub hl6 [0, 2, 3, 4, 5] rfl)
            · refine lv_lload hx hb dX6_lays_76 (lv_at hl5 0 rfl) ?_
              refine lv_ldc2 (v := 99) hx hb hown (hw _ kw_4_21) dX6_lays_78 ?_
              refine W.lcmp hx hb dX6_lays_81 ?_
              refine lv_if_gt (tgt := 101) hx hb dX6_lays_82 (by decide) (fun c_82 => ?_) (fun c_82 => ?_)
              · have hin : ¬ (0 ≤ f 1 i ∧ f 1 i ≤ 99) := fun z9 => (lt_in.mpr z9).2 c_82
                have hq9 : ([sO cy hh a kk dd b w ee qq ik] ++ (pS cy a (lysS (f 1) S i) ++ ([ia cy (hh 1) 7 C] ++ (shB cy qq bi si f)))) = ([sO cy hh a kk dd b w ee qq ik] ++ (pS cy a (lysS (f 1) S (i + 1)) ++ ([ia cy (hh 1) 7 C] ++ (shB cy qq bi si f)))) := congrArg (fun z9 => [sO cy hh a kk dd b w ee qq ik] ++ (pS cy a z9 ++ ([ia cy (hh 1) 7 C] ++ (shB cy qq bi si f)))) (show (lysS (f 1) S i) = (lysS (f 1) S (i + 1)) from (if_neg hin).symm)
                replace hP2 := (congrArg (fun z9 => va_P D vwCl z9 _) hq9).mp hP2
                replace hD2 := (congrArg (fun z9 => va_D _ z9) hq9).mp hD2
                clear hq9
                have hq9 : nI (lysC (f 1) (i + 1)) = nI (lysC (f 1) i) := congrArg nI (if_neg hin)
                replace hl5 : lv_has ls5 7 [(5, .long (f 1 i)), (4, .int (nI i)), (3, .int (nI (lysC (f 1) (i + 1)))), (2, .ref (qq 2)), (0, .ref (hh 0)), (1, .int 1)] := (congrArg (fun z9 => lv_has ls5 7 [(5, .long (f 1 i)), (4, .int (nI i)), (3, .int z9), (2, .ref (qq 2)), (0, .ref (hh 0)), (1, .int 1)]) hq9).mpr hl5
                clear hq9
                refine lv_iinc (v := nI (i + 1)) (lv' := [(4, .int (nI (i + 1))), (5, .long (f 1 i)), (3, .int (nI (lysC (f 1) (i + 1)))), (2, .ref (qq 2)), (0, .ref (hh 0)), (1, .int 1)]) hx hb dX6_lays_101 hl5 (k := 1) rfl (nI_inc _) (by decide) rfl (fun ls6 hl6 => ?_)
                clear hl5 ls5
                refine lv_goto (tgt := 39) hx hb dX6_lays_104 (by decide) ?_
                exact ih_39 (i + 1) (⟨by first | omega | assumption | rfl | simp_all, by first | omega | assumption | rfl | simp_all⟩) (by (try dsimp only); omega) H2 locs2 ls6 hP2 hD2 hS2 (lv_sub hl6 [0, 2, 3, 4, 5] rfl)
              · refine lv_aload_n hx hb dX6_lays_85 rfl (lv_at hl5 4 rfl) ?_
                refine va_get (D := D) (ci := 6) (v := .ref (a 0)) (C := RX6) (T := TX6) (N := 9) hx hb hw iX6 hown hK hP2 0 rfl rfl 0 (by decide) (hw _ kw_2_27) (fun _ h9 => h9) rfl dX6_lays_86 ?_
                refine va_get (D := D) (ci := 1) (v := .ref (a 4)) (C := RX1) (T := TX1) (N := 12) hx hb hw iX1 hown hK hP2 1 rfl rfl 5 (by decide) (hw _ kw_1_49) (fun _ h9 => h9) rfl dX6_lays_89 ?_
                refine lv_iload hx hb dX6_lays_92 (lv_at hl5 1 rfl) ?_
                refine lv_lload hx hb dX6_lays_94 (lv_at hl5 0 rfl) ?_
                refine lv_l2i hx hb dX6_lays_96 rfl ?_
                refine ast_i (f := fun g => (lysS (f 1) S i) (12 + 8 * g)) (ws' := [sO cy hh a kk dd b w ee qq ik] ++ (pS cy a (upd (lysS (f 1) S i) (12 + 8 * i) ((f 1 i).toInt32)) ++ ([ia cy (hh 1) 7 C] ++ (shB cy qq bi si f)))) hx hb hK hP2 hD2 hS2 5 0 rfl rfl i rfl (by first | omega | assumption) (by decide) (congrArg (fun z => [sO cy hh a kk dd b w ee qq ik] ++ (z ++ ([ia cy (hh 1) 7 C] ++ (shB cy qq bi si f)))) (pS_a3 cy a (lysS (f 1) S i) i ((f 1 i).toInt32))) dX6_lays_97 (fun H3 locs3 hP3 hD3 hS3 => ?_)
                clear hP2 hD2 hS2 locs2 H2
                refine lv_iinc (v := nI (lysC (f 1) i + 1)) (lv' := [(3, .int (nI (lysC (f 1) i + 1))), (5, .long (f 1 i)), (4, .int (nI i)), (2, .ref (qq 2)), (0, .ref (hh 0)), (1, .int 1)]) hx hb dX6_lays_98 hl5 (k := 2) rfl (nI_inc _) (by decide) rfl (fun ls6 hl6 => ?_)
                clear hl5 ls5
                have hin := lt_in.mp ⟨c_73, c_82⟩
                have hq9 : ([sO cy hh a kk dd b w ee qq ik] ++ (pS cy a (upd (lysS (f 1) S i) (12 + 8 * i) ((f 1 i).toInt32)) ++ ([ia cy (hh 1) 7 C] ++ (shB cy qq bi si f)))) = ([sO cy hh a kk dd b w ee qq ik] ++ (pS cy a (lysS (f 1) S (i + 1)) ++ ([ia cy (hh 1) 7 C] ++ (shB cy qq bi si f)))) := congrArg (fun z9 => [sO cy hh a kk dd b w ee qq ik] ++ (pS cy a z9 ++ ([ia cy (hh 1) 7 C] ++ (shB cy qq bi si f)))) (show (upd (lysS (f 1) S i) (12 + 8 * i) ((f 1 i).toInt32)) = (lysS (f 1) S (i + 1)) from (if_pos hin).symm)
                replace hP3 := (congrArg (fun z9 => va_P D vwCl z9 _) hq9).mp hP3
                replace hD3 := (congrArg (fun z9 => va_D _ z9) hq9).mp hD3
                clear hq9
                have hq9 : nI (lysC (f 1) (i + 1)) = nI (lysC (f 1) i + 1) := congrArg nI (if_pos hin)
                replace hl6 : lv_has ls6 7 [(3, .int (nI (lysC (f 1) (i + 1)))), (5, .long (f 1 i)), (4, .int (nI i)), (2, .ref (qq 2)), (0, .ref (hh 0)), (1, .int 1)] := (congrArg (fun z9 => lv_has ls6 7 [(3, .int z9), (5, .long (f 1 i)), (4, .int (nI i)), (2, .ref (qq 2)), (0, .ref (hh 0)), (1, .int 1)]) hq9).mpr hl6
                clear hq9
                refine lv_iinc (v := nI (i + 1)) (lv' := [(4, .int (nI (i + 1))), (3, .int (nI (lysC (f 1) (i + 1)))), (5, .long (f 1 i)), (2, .ref (qq 2)), (0, .ref (hh 0)), (1, .int 1)]) hx hb dX6_lays_101 hl6 (k := 2) rfl (nI_inc _) (by decide) rfl (fun ls7 hl7 => ?_)
                clear hl6 ls6
                refine lv_goto (tgt := 39) hx hb dX6_lays_104 (by decide) ?_
                exact ih_39 (i + 1) (⟨by first | omega | assumption | rfl | simp_all, by first | omega | assumption | rfl | simp_all⟩) (by (try dsimp only); omega) H3 locs3 ls7 hP3 hD3 hS3 (lv_sub hl7 [0, 1, 3, 4, 5] rfl)
      · refine lv_aload_n hx hb dX6_lays_28 rfl (lv_at hl1 1 rfl) ?_
        refine lv_iconst (v := 5) hx hb dX6_lays_29 (by decide) ?_
        refine cV_i (wc := [sO cy hh a kk dd b w ee qq ik, ia cy (hh 1) 7 C]) (wr := pS cy a S ++ (shB cy qq bi si f)) (rest := []) hx hb hml hown hw hG hK hP1 hD1 hS1 hA hl1 kc_X6_find kw_2_59 [.int 5] (c_X6_find l D cy G H1.size hh a kk dd b w ee qq ik C 5 (by first | omega | assumption)) [0, 11] [1, 2, 3, 4, 5, 6, 7, 8, 9, 10, 12, 13, 14, 15, 16, 17, 18, 19, 20] rfl rfl rfl rfl rfl 0 rfl rfl rfl rfl rfl (Nat.le_of_ble_eq_true rfl) ⟨Nat.le_of_ble_eq_true rfl, Nat.le_of_ble_eq_true rfl⟩ dX6_lays_30 ⟨Nat.le_of_ble_eq_true rfl, Nat.le_of_ble_eq_true rfl⟩ (fun r_30 u9 H2 locs2 hu9 hP2 hD2 hS2 => ?_)
        clear hP1 hD1 hS1 locs1 H1
        have hr_30 := hu9
        replace hP2 : va_P D vwCl (pS cy a S ++ (shB cy qq bi si f ++ ([sO cy hh a kk dd b w ee qq ik, ia cy (hh 1) 7 (upd C 5 (C 5 + 1))]))) H2 := hP2
        replace hD2 : va_D (va_A _ sz) (pS cy a S ++ (shB cy qq bi si f ++ ([sO cy hh a kk dd b w ee qq ik, ia cy (hh 1) 7 (upd C 5 (C 5 + 1))]))) := hD2
        replace hP2 := hP2.sub (ws' := [sO cy hh a kk dd b w ee qq ik] ++ (pS cy a S ++ ([ia cy (hh 1) 7 (upd C 5 (C 5 + 1))] ++ (shB cy qq bi si f)))) [19, 0, 1, 2, 3, 4, 5, 6, 7, 8, 9, 20, 10, 11, 12, 13, 14, 15, 16, 17, 18] rfl
        replace hD2 := hD2.sub (ws' := [sO cy hh a kk dd b w ee qq ik] ++ (pS cy a S ++ ([ia cy (hh 1) 7 (upd C 5 (C 5 + 1))] ++ (shB cy qq bi si f)))) [19, 0, 1, 2, 3, 4, 5, 6, 7, 8, 9, 20, 10, 11, 12, 13, 14, 15, 16, 17, 18] (by decide) rfl
        subst hr_30
        have hcd : cSh bi 1 = 5 := by unfold cSh; clear hx hb hml hown hr hlocks hw hsz hA hG hK hP2 hD2 hS2 hl1; grind
        have hq9 : ([sO cy hh a kk dd b w ee qq ik] ++ (pS cy a S ++ ([ia cy (hh 1) 7 (upd C 5 (C 5 + 1))] ++ (shB cy qq bi si f)))) = ([sO cy hh a kk dd b w ee qq ik] ++ (pS cy a S ++ ([ia cy (hh 1) 7 (fnd C (cSh bi 1))] ++ (shB cy qq bi si f)))) := congrArg (fun z9 => [sO cy hh a kk dd b w ee qq ik] ++ (pS cy a S ++ ([ia cy (hh 1) 7 z9] ++ (shB cy qq bi si f)))) (show (upd C 5 (C 5 + 1)) = (fnd C (cSh bi 1)) from fnd_f hcd (by decide))
        replace hP2 := (congrArg (fun z9 => va_P D vwCl z9 _) hq9).mp hP2
        replace hD2 := (congrArg (fun z9 => va_D _ z9) hq9).mp hD2
        clear hq9
        have hq9 : ([sO cy hh a kk dd b w ee qq ik] ++ (pS cy a S ++ ([ia cy (hh 1) 7 (fnd C (cSh bi 1))] ++ (shB cy qq bi si f)))) = ([sO cy hh a kk dd b w ee qq ik] ++ (pS cy a (if cSh bi 1 = 7 then lysS (f (bstN 1)) S (minN (bstN (si (bstN 1))) (gcN S)) else S) ++ ([ia cy (hh 1) 7 (fnd C (cSh bi 1))] ++ (shB cy qq bi si f)))) := congrArg (fun z9 => [sO cy hh a kk dd b w ee qq ik] ++ (pS cy a z9 ++ ([ia cy (hh 1) 7 (fnd C (cSh bi 1))] ++ (shB cy qq bi si f)))) (show S = (if cSh bi 1 = 7 then lysS (f (bstN 1)) S (minN (bstN (si (bstN 1))) (gcN S)) else S) from (if_neg (fun z9 => absurd (hcd.symm.trans z9) (by decide))).symm)
        replace hP2 := (congrArg (fun z9 => va_P D vwCl z9 _) hq9).mp hP2
        replace hD2 := (congrArg (fun z9 => va_D _ z9) hq9).mp hD2
        clear hq9
        refine re_i () hx hb hr hlocks hP2 hD2 hS2 dX6_lays_33 ?_
        exact (ans_f hcd (by decide) rfl)
    · refine lv_aload_n hx hb dX6_lays_14 rfl (lv_at hl0 0 rfl) ?_
      refine va_get (D := D) (ci := 6) (v := .ref (qq 0)) (C := RX6) (T := TX6) (N := 9) hx hb hw iX6 hown hK hP1 0 rfl rfl 7 (by decide) (hw _ kw_2_34) (fun _ h9 => h9) rfl dX6_lays_15 ?_
      refine lv_iload_n hx hb dX6_lays_18 rfl (lv_at hl0 1 rfl) ?_
      refine ald_q hx hb hK hP1 12 3 rfl rfl rfl 2 rfl (by first | omega | assumption) (by decide) (rfl) dX6_lays_19 ?_
      refine lv_astore_n (lv' := [(2, .ref (qq 3)), (0, .ref (hh 0)), (1, .int 2)]) hx hb dX6_lays_20 rfl hl0 (by decide) rfl (fun ls1 hl1 => ?_)
      clear hl0 ls0
      refine lv_aload_n hx hb dX6_lays_21 rfl (lv_at hl1 0 rfl) ?_
      refine va_get (D := D) (ci := 2) (v := .int (bi 2)) (C := RX2) (T := TX2) (N := 3) hx hb hw iX2 hown hK hP1 15 rfl rfl 1 (by decide) (hw _ kw_2_16) (fun _ h9 => h9) rfl dX6_lays_22 ?_
      refine lv_if_ne (tgt := 34) hx hb dX6_lays_25 (by decide) (fun c_25 => ?_) (fun c_25 => ?_)
      · refine lv_iconst (v := 0) hx hb dX6_lays_34 (by decide) ?_
        refine lv_istore_n (lv' := [(3, .int 0), (2, .ref (qq 3)), (0, .ref (hh 0)), (1, .int 2)]) hx hb dX6_lays_35 rfl hl1 (by decide) rfl (fun ls2 hl2 => ?_)
        clear hl1 ls1
        refine lv_iconst (v := 0) hx hb dX6_lays_36 (by decide) ?_
        refine lv_istore (lv' := [(4, .int 0), (3, .int 0), (2, .ref (qq 3)), (0, .ref (hh 0)), (1, .int 2)]) hx hb dX6_lays_37 hl2 (by decide) rfl (fun ls3 hl3 => ?_)
        clear hl2 ls2
        have hq9 : nI (lysC (f 2) 0) = 0 := rfl
        replace hl3 : lv_has ls3 7 [(4, .int 0), (3, .int (nI (lysC (f 2) 0))), (2, .ref (qq 3)), (0, .ref (hh 0)), (1, .int 2)] := (congrArg (fun z9 => lv_has ls3 7 [(4, .int 0), (3, .int z9), (2, .ref (qq 3)), (0, .ref (hh 0)), (1, .int 2)]) hq9).mpr hl3
        clear hq9
        have hq9 : ([sO cy hh a kk dd b w ee qq ik] ++ (pS cy a S ++ ([ia cy (hh 1) 7 C] ++ (shB cy qq bi si f)))) = ([sO cy hh a kk dd b w ee qq ik] ++ (pS cy a (lysS (f 2) S 0) ++ ([ia cy (hh 1) 7 C] ++ (shB cy qq bi si f)))) := congrArg (fun z9 => [sO cy hh a kk dd b w ee qq ik] ++ (pS cy a z9 ++ ([ia cy (hh 1) 7 C] ++ (shB cy qq bi si f)))) (show S = (lysS (f 2) S 0) from rfl)
        replace hP1 := (congrArg (fun z9 => va_P D vwCl z9 _) hq9).mp hP1
        replace hD1 := (congrArg (fun z9 => va_D _ z9) hq9).mp hD1
        clear hq9
        refine wlp (ι := Nat) (nL := 7) (fun x9 => (x9 ≤ gcN S) ∧ (x9 ≤ bstN (si 2))) (fun x9 => [sO cy hh a kk dd b w ee qq ik] ++ (pS cy a (lysS (f 2) S x9) ++ ([ia cy (hh 1) 7 C] ++ (shB cy qq bi si f)))) (fun x9 => [(4, .int (nI x9)), (3, .int (nI (lysC (f 2) x9))), (2, .ref (qq 3)), (0, .ref (hh 0)), (1, .int 2)]) (fun x9 => []) (fun x9 => gcN S - x9) 39 ?_ 0 (⟨by first | omega | assumption | rfl | simp_all, by first | omega | assumption | rfl | simp_all⟩) rfl hP1 hD1 hS1 (lv_sub hl3 [0, 1, 2, 3, 4] rfl)
        clear hP1 hD1 hS1 locs1 H1 hl3 ls3
        intro x9 hI ih_39 H2 locs2 ls4 hP2 hD2 hS2 hl4
        obtain ⟨i, rfl⟩ : ∃ z9, z9 = x9 := ⟨_, rfl⟩
        obtain ⟨hi, hi2⟩ := hI
        replace hi : i ≤ gcN S := hi
        replace hi2 : i ≤ bstN (si 2) := hi2
        replace hP2 : va_P D vwCl ([sO cy hh a kk dd b w ee qq ik] ++ (pS cy a (lysS (f 2) S i) ++ ([ia cy (hh 1) 7 C] ++ (shB cy qq bi si f)))) H2 := hP2
        replace hD2 : va_D (va_A _ sz) ([sO cy hh a kk dd b w ee qq ik] ++ (pS cy a (lysS (f 2) S i) ++ ([ia cy (hh 1) 7 C] ++ (shB cy qq bi si f)))) := hD2
        replace hl4 : lv_has ls4 7 [(4, .int (nI i)), (3, .int (nI (lysC (f 2) i))), (2, .ref (qq 3)), (0, .ref (hh 0)), (1, .int 2)] := hl4
        show W p l e _ s m _ below meth c _ _ _ _ _ (F0 m 39 ls4 [])
        refine lv_iload hx hb dX6_lays_39 (lv_at hl4 0 rfl) ?_
        refine lv_aload_n hx hb dX6_lays_41 rfl (lv_at hl4 2 rfl) ?_
        refine va_get (D := D) (ci := 2) (v := .int (si 2)) (C := RX2) (T := TX2) (N := 3) hx hb hw iX2 hown hK hP2 15 rfl rfl 2 (by decide) (hw _ kw_2_18) (fun _ h9 => h9) rfl dX6_lays_42 ?_
        refine tp (show (si 2) = nI (bstN (si 2)) from (hso 2 (by decide)).1) ?_
        refine ln_ge (tgt := 107) i (bstN (si 2)) rfl rfl (by omega) (by omega) hx hb dX6_lays_45 (by decide) (fun c_45 => ?_) (fun c_45 => ?_)
        · have hie : minN (bstN (si 2)) (gcN S) = i := minN_u (by omega) (by omega) (by omega)
          have hq9 : ([sO cy hh a kk dd b w ee qq ik] ++ (pS cy a (lysS (f 2) S i) ++ ([ia cy (hh 1) 7 C] ++ (shB cy qq bi si f)))) = ([sO cy hh a kk dd b w ee qq ik] ++ (pS cy a (lysS (f 2) S (minN (bstN (si 2)) (gcN S))) ++ ([ia cy (hh 1) 7 C] ++ (shB cy qq bi si f)))) := congrArg (fun z9 => [sO cy hh a kk dd b w ee qq ik] ++ (pS cy a z9 ++ ([ia cy (hh 1) 7 C] ++ (shB cy qq bi si f)))) (show (lysS (f 2) S i) = (lysS (f 2) S (minN (bstN (si 2)) (gcN S))) from by rw [hie])
          replace hP2 := (congrArg (fun z9 => va_P D vwCl z9 _) hq9).mp hP2
          replace hD2 := (congrArg (fun z9 => va_D _ z9) hq9).mp hD2
          clear hq9
          have hq9 : nI (lysC (f 2) (minN (bstN (si 2)) (gcN S))) = nI (lysC (f 2) i) := by rw [hie]
          replace hl4 : lv_has ls4 7 [(4, .int (nI i)), (3, .int (nI (lysC (f 2) (minN (bstN (si 2)) (gcN S))))), (2, .ref (qq 3)), (0, .ref (hh 0)), (1, .int 2)] := (congrArg (fun z9 => lv_has ls4 7 [(4, .int (nI i)), (3, .int z9), (2, .ref (qq 3)), (0, .ref (hh 0)), (1, .int 2)]) hq9).mpr hl4
          clear hq9
          refine lv_iload_n hx hb dX6_lays_107 rfl (lv_at hl4 1 rfl) ?_
          have hcd : cSh bi 2 = 7 := by unfold cSh; clear hx hb hml hown hr hlocks hw hsz hA hG hK hP2 hD2 hS2 hl4 ih_39; grind
          have hq9 : ([sO cy hh a kk dd b w ee qq ik] ++ (pS cy a (lysS (f 2) S (minN (bstN (si 2)) (gcN S))) ++ ([ia cy (hh 1) 7 C] ++ (shB cy qq bi si f)))) = ([sO cy hh a kk dd b w ee qq ik] ++ (pS cy a (lysS (f 2) S (minN (bstN (si 2)) (gcN S))) ++ ([ia cy (hh 1) 7 (fnd C (cSh bi 2))] ++ (shB cy qq bi si f)))) := congrArg (fun z9 => [sO cy hh a kk dd b w ee qq ik] ++ (pS cy a (lysS (f 2) S (minN (bstN (si 2)) (gcN S))) ++ ([ia cy (hh 1) 7 z9] ++ (shB cy qq bi si f)))) (show C = (fnd C (cSh bi 2)) from fnd_o hcd)
          replace hP2 := (congrArg (fun z9 => va_P D vwCl z9 _) hq9).mp hP2
          replace hD2 := (congrArg (fun z9 => va_D _ z9) hq9).mp hD2
          clear hq9
          have hq9 : ([sO cy hh a kk dd b w ee qq ik] ++ (pS cy a (lysS (f 2) S (minN (bstN (si 2)) (gcN S))) ++ ([ia cy (hh 1) 7 (fnd C (cSh bi 2))] ++ (shB cy qq bi si f)))) = ([sO cy hh a kk dd b w ee qq ik] ++ (pS cy a (if cSh bi 2 = 7 then lysS (f (bstN 2)) S (minN (bstN (si (bstN 2))) (gcN S)) else S) ++ ([ia cy (hh 1) 7 (fnd C (cSh bi 2))] ++ (shB cy qq bi si f)))) := congrArg (fun z9 => [sO cy hh a kk dd b w ee qq ik] ++ (pS cy a z9 ++ ([ia cy (hh 1) 7 (fnd C (cSh bi 2))] ++ (shB cy qq bi si f)))) (show (lysS (f 2) S (minN (bstN (si 2)) (gcN S))) = (if cSh bi 2 = 7 then lysS (f (bstN 2)) S (minN (bstN (si (bstN 2))) (gcN S)) else S) from by rw [if_pos hcd]; simp only [hb0, hb1, hb2, hb3])
          replace hP2 := (congrArg (fun z9 => va_P D vwCl z9 _) hq9).mp hP2
          replace hD2 := (congrArg (fun z9 => va_D _ z9) hq9).mp hD2
          clear hq9
          refine re_i () hx hb hr hlocks hP2 hD2 hS2 dX6_lays_108 ?_
          exact (ans_o hcd (by simp only [hb0, hb1, hb2, hb3]))
        · refine lv_iload hx hb dX6_lays_48 (lv_at hl4 0 rfl) ?_
          refine lv_aload_n hx hb dX6_lays_50 rfl (lv_at hl4 3 rfl) ?_
          refine va_get (D := D) (ci := 6) (v := .ref (a 0)) (C := RX6) (T := TX6) (N := 9) hx hb hw iX6 hown hK hP2 0 rfl rfl 0 (by decide) (hw _ kw_2_27) (fun _ h9 => h9) rfl dX6_lays_51 ?_
          refine va_get (D := D) (ci := 1) (v := .int ((lysS (f 2) S i) 1)) (C := RX1) (T := TX1) (N := 12) hx hb hw iX1 hown hK hP2 1 rfl rfl 1 (by decide) (hw _ kw_1_35) (fun _ h9 => h9) rfl dX6_lays_54 ?_
          refine tp (show ((lysS (f 2) S i) 1) = nI (gcN S) from (lysS_lo (f 2) S (by decide) i).trans (wf_g wf)) ?_
          refine ln_ge (tgt := 107) i (gcN S) rfl rfl (by omega) (by omega) hx hb dX6_lays_57 (by decide) (fun c_57 => ?_) (fun c_57 => ?_)
          · have hie : minN (bstN (si 2)) (gcN S) = i := minN_u (by omega) (by omega) (by omega)
            have hq9 : ([sO cy hh a kk dd b w ee qq ik] ++ (pS cy a (lysS (f 2) S i) ++ ([ia cy (hh 1) 7 C] ++ (shB cy qq bi si f)))) = ([sO cy hh a kk dd b w ee qq ik] ++ (pS cy a (lysS (f 2) S (minN (bstN (si 2)) (gcN S))) ++ ([ia cy (hh 1) 7 C] ++ (shB cy qq bi si f)))) := congrArg (fun z9 => [sO cy hh a kk dd b w ee qq ik] ++ (pS cy a z9 ++ ([ia cy (hh 1) 7 C] ++ (shB cy qq bi si f)))) (show (lysS (f 2) S i) = (lysS (f 2) S (minN (bstN (si 2)) (gcN S))) from by rw [hie])
            replace hP2 := (congrArg (fun z9 => va_P D vwCl z9 _) hq9).mp hP2
            replace hD2 := (congrArg (fun z9 => va_D _ z9) hq9).mp hD2
            clear hq9
            have hq9 : nI (lysC (f 2) (minN (bstN (si 2)) (gcN S))) = nI (lysC (f 2) i) := by rw [hie]
            replace hl4 : lv_has ls4 7 [(4, .int (nI i)), (3, .int (nI (lysC (f 2) (minN (bstN (si 2)) (gcN S))))), (2, .ref (qq 3)), (0, .ref (hh 0)), (1, .int 2)] := (congrArg (fun z9 => lv_has ls4 7 [(4, .int (nI i)), (3, .int z9), (2, .ref (qq 3)), (0, .ref (hh 0)), (1, .int 2)]) hq9).mpr hl4
            clear hq9
            refine lv_iload_n hx hb dX6_lays_107 rfl (lv_at hl4 1 rfl) ?_
            have hcd : cSh bi 2 = 7 := by unfold cSh; clear hx hb hml hown hr hlocks hw hsz hA hG hK hP2 hD2 hS2 hl4 ih_39; grind
            have hq9 : ([sO cy hh a kk dd b w ee qq ik] ++ (pS cy a (lysS (f 2) S (minN (bstN (si 2)) (gcN S))) ++ ([ia cy (hh 1) 7 C] ++ (shB cy qq bi si f)))) = ([sO cy hh a kk dd b w ee qq ik] ++ (pS cy a (lysS (f 2) S (minN (bstN (si 2)) (gcN S))) ++ ([ia cy (hh 1) 7 (fnd C (cSh bi 2))] ++ (shB cy qq bi si f)))) := congrArg (fun z9 => [sO cy hh a kk dd b w ee qq ik] ++ (pS cy a (lysS (f 2) S (minN (bstN (si 2)) (gcN S))) ++ ([ia cy (hh 1) 7 z9] ++ (shB cy qq bi si f)))) (show C = (fnd C (cSh bi 2)) from fnd_o hcd)
            replace hP2 := (congrArg (fun z9 => va_P D vwCl z9 _) hq9).mp hP2
            replace hD2 := (congrArg (fun z9 => va_D _ z9) hq9).mp hD2
            clear hq9
            have hq9 : ([sO cy hh a kk dd b w ee qq ik] ++ (pS cy a (lysS (f 2) S (minN (bstN (si 2)) (gcN S))) ++ ([ia cy (hh 1) 7 (fnd C (cSh bi 2))] ++ (shB cy qq bi si f)))) = ([sO cy hh a kk dd b w ee qq ik] ++ (pS cy a (if cSh bi 2 = 7 then lysS (f (bstN 2)) S (minN (bstN (si (bstN 2))) (gcN S)) else S) ++ ([ia cy (hh 1) 7 (fnd C (cSh bi 2))] ++ (shB cy qq bi si f)))) := congrArg (fun z9 => [sO cy hh a kk dd b w ee qq ik] ++ (pS cy a z9 ++ ([ia cy (hh 1) 7 (fnd C (cSh bi 2))] ++ (shB cy qq bi si f)))) (show (lysS (f 2) S (minN (bstN (si 2)) (gcN S))) = (if cSh bi 2 = 7 then lysS (f (bstN 2)) S (minN (bstN (si (bstN 2))) (gcN S)) else S) from by rw [if_pos hcd]; simp only [hb0, hb1, hb2, hb3])
            replace hP2 := (congrArg (fun z9 => va_P D vwCl z9 _) hq9).mp hP2
            replace hD2 := (congrArg (fun z9 => va_D _ z9) hq9).mp hD2
            clear hq9
            refine re_i () hx hb hr hlocks hP2 hD2 hS2 dX6_lays_108 ?_
            exact (ans_o hcd (by simp only [hb0, hb1, hb2, hb3]))
          · refine lv_aload_n hx hb dX6_lays_60 rfl (lv_at hl4 2 rfl) ?_
            refine va_get (D := D) (ci := 2) (v := .ref (qq 7)) (C := RX2) (T := TX2) (N := 3) hx hb hw iX2 hown hK hP2 15 rfl rfl 0 (by decide) (hw _ kw_2_14) (fun _ h9 => h9) rfl dX6_lays_61 ?_
            refine lv_iload hx hb dX6_lays_64 (lv_at hl4 0 rfl) ?_
            refine ald_l (f := f 2) hx hb hK hP2 19 1 rfl rfl i rfl (by first | omega | assumption) (by decide) dX6_lays_66 ?_
            refine lv_lstore (lv' := [(5, .long (f 2 i)), (4, .int (nI i)), (3, .int (nI (lysC (f 2) i))), (2, .ref (qq 3)), (0, .ref (hh 0)), (1, .int 2)]) hx hb dX6_lays_67 hl4 (by decide) rfl (fun ls5 hl5 => ?_)
            clear hl4 ls4
            refine lv_lload hx hb dX6_lays_69 (lv_at hl5 0 rfl) ?_
            refine lv_lconst (v := 0) hx hb dX6_lays_71 (by decide) ?_
            refine W.lcmp hx hb dX6_lays_72 ?_
            refine lv_if_lt (tgt := 101) hx hb dX6_lays_73 (by decide) (fun c_73 => ?_) (fun c_73 => ?_)
            · have hin : ¬ (0 ≤ f 2 i ∧ f 2 i ≤ 99) := fun z9 => (lt_in.mpr z9).1 c_73
              have hq9 : ([sO cy hh a kk dd b w ee qq ik] ++ (pS cy a (lysS (f 2) S i) ++ ([ia cy (hh 1) 7 C] ++ (shB cy qq bi si f)))) = ([sO cy hh a kk dd b w ee qq ik] ++ (pS cy a (lysS (f 2) S (i + 1)) ++ ([ia cy (hh 1) 7 C] ++ (shB cy qq bi si f)))) := congrArg (fun z9 => [sO cy hh a kk dd b w ee qq ik] ++ (pS cy a z9 ++ ([ia cy (hh 1) 7 C] ++ (shB cy qq bi si f)))) (show (lysS (f 2) S i) = (lysS (f 2) S (i + 1)) from (if_neg hin).symm)
              replace hP2 := (congrArg (fun z9 => va_P D vwCl z9 _) hq9).mp hP2
              replace hD2 := (congrArg (fun z9 => va_D _ z9) hq9).mp hD2
              clear hq9
              have hq9 : nI (lysC (f 2) (i + 1)) = nI (lysC (f 2) i) := congrArg nI (if_neg hin)
              replace hl5 : lv_has ls5 7 [(5, .long (f 2 i)), (4, .int (nI i)), (3, .int (nI (lysC (f 2) (i + 1)))), (2, .ref (qq 3)), (0, .ref (hh 0)), (1, .int 2)] := (congrArg (fun z9 => lv_has ls5 7 [(5, .long (f 2 i)), (4, .int (nI i)), (3, .int z9), (2, .ref (qq 3)), (0, .ref (hh 0)), (1, .int 2)]) hq9).mpr hl5
              clear hq9
              refine lv_iinc (v := nI (i + 1)) (lv' := [(4, .int (nI (i + 1))), (5, .long (f 2 i)), (3, .int (nI (lysC (f 2) (i + 1)))), (2, .ref (qq 3)), (0, .ref (hh 0)), (1, .int 2)]) hx hb dX6_lays_101 hl5 (k := 1) rfl (nI_inc _) (by decide) rfl (fun ls6 hl6 => ?_)
              clear hl5 ls5
              refine lv_goto (tgt := 39) hx hb dX6_lays_104 (by decide) ?_
              exact ih_39 (i + 1) (⟨by first | omega | assumption | rfl | simp_all, by first | omega | assumption | rfl | simp_all⟩) (by (try dsimp only); omega) H2 locs2 ls6 hP2 hD2 hS2 (lv_sub hl6 [0, 2, 3, 4, 5] rfl)
            · refine lv_lload hx hb dX6_lays_76 (lv_at hl5 0 rfl) ?_
              refine lv_ldc2 (v := 99) hx hb hown (hw _ kw_4_21) dX6_lays_78 ?_
              refine W.lcmp hx hb dX6_lays_81 ?_
              refine lv_if_gt (tgt := 101) hx hb dX6_lays_82 (by decide) (fun c_82 => ?_) (fun c_82 => ?_)
              · have hin : ¬ (0 ≤ f 2 i ∧ f 2 i ≤ 99) := fun z9 => (lt_in.mpr z9).2 c_82
                have hq9 : ([sO cy hh a kk dd b w ee qq ik] ++ (pS cy a (lysS (f 2) S i) ++ ([ia cy (hh 1) 7 C] ++ (shB cy qq bi si f)))) = ([sO cy hh a kk dd b w ee qq ik] ++ (pS cy a (lysS (f 2) S (i + 1)) ++ ([ia cy (hh 1) 7 C] ++ (shB cy qq bi si f)))) := congrArg (fun z9 => [sO cy hh a kk dd b w ee qq ik] ++ (pS cy a z9 ++ ([ia cy (hh 1) 7 C] ++ (shB cy qq bi si f)))) (show (lysS (f 2) S i) = (lysS (f 2) S (i + 1)) from (if_neg hin).symm)
                replace hP2 := (congrArg (fun z9 => va_P D vwCl z9 _) hq9).mp hP2
                replace hD2 := (congrArg (fun z9 => va_D _ z9) hq9).mp hD2
                clear hq9
                have hq9 : nI (lysC (f 2) (i + 1)) = nI (lysC (f 2) i) := congrArg nI (if_neg hin)
                replace hl5 : lv_has ls5 7 [(5, .long (f 2 i)), (4, .int (nI i)), (3, .int (nI (lysC (f 2) (i + 1)))), (2, .ref (qq 3)), (0, .ref (hh 0)), (1, .int 2)] := (congrArg (fun z9 => lv_has ls5 7 [(5, .long (f 2 i)), (4, .int (nI i)), (3, .int z9), (2, .ref (qq 3)), (0, .ref (hh 0)), (1, .int 2)]) hq9).mpr hl5
                clear hq9
                refine lv_iinc (v := nI (i + 1)) (lv' := [(4, .int (nI (i + 1))), (5, .long (f 2 i)), (3, .int (nI (lysC (f 2) (i + 1)))), (2, .ref (qq 3)), (0, .ref (hh 0)), (1, .int 2)]) hx hb dX6_lays_101 hl5 (k := 1) rfl (nI_inc _) (by decide) rfl (fun ls6 hl6 => ?_)
                clear hl5 ls5
                refine lv_goto (tgt := 39) hx hb dX6_lays_104 (by decide) ?_
                exact ih_39 (i + 1) (⟨by first | omega | assumption | rfl | simp_all, by first | omega | assumption | rfl | simp_all⟩) (by (try dsimp only); omega) H2 locs2 ls6 hP2 hD2 hS2 (lv_sub hl6 [0, 2, 3, 4, 5] rfl)
              · refine lv_aload_n hx hb dX6_lays_85 rfl (lv_at hl5 4 rfl) ?_
                refine va_get (D := D) (ci := 6) (v := .ref (a 0)) (C := RX6) (T := TX6) (N := 9) hx hb hw iX6 hown hK hP2 0 rfl rfl 0 (by decide) (hw _ kw_2_27) (fun _ h9 => h9) rfl dX6_lays_86 ?_
                refine va_get (D := D) (ci := 1) (v := .ref (a 4)) (C := RX1) (T := TX1) (N := 12) hx hb hw iX1 hown hK hP2 1 rfl rfl 5 (by decide) (hw _ kw_1_49) (fun _ h9 => h9) rfl dX6_lays_89 ?_
                refine lv_iload hx hb dX6_lays_92 (lv_at hl5 1 rfl) ?_
                refine lv_lload hx hb dX6_lays_94 (lv_at hl5 0 rfl) ?_
                refine lv_l2i hx hb dX6_lays_96 rfl ?_
                refine ast_i (f := fun g => (lysS (f 2) S i) (12 + 8 * g)) (ws' := [sO cy hh a kk dd b w ee qq ik] ++ (pS cy a (upd (lysS (f 2) S i) (12 + 8 * i) ((f 2 i).toInt32)) ++ ([ia cy (hh 1) 7 C] ++ (shB cy qq bi si f)))) hx hb hK hP2 hD2 hS2 5 0 rfl rfl i rfl (by first | omega | assumption) (by decide) (congrArg (fun z => [sO cy hh a kk dd b w ee qq ik] ++ (z ++ ([ia cy (hh 1) 7 C] ++ (shB cy qq bi si f)))) (pS_a3 cy a (lysS (f 2) S i) i ((f 2 i).toInt32))) dX6_lays_97 (fun H3 locs3 hP3 hD3 hS3 => ?_)
                clear hP2 hD2 hS2 locs2 H2
                refine lv_iinc (v := nI (lysC (f 2) i + 1)) (lv' := [(3, .int (nI (lysC (f 2) i + 1))), (5, .long (f 2 i)), (4, .int (nI i)), (2, .ref (qq 3)), (0, .ref (hh 0)), (1, .int 2)]) hx hb dX6_lays_98 hl5 (k := 2) rfl (nI_inc _) (by decide) rfl (fun ls6 hl6 => ?_)
                clear hl5 ls5
                have hin := lt_in.mp ⟨c_73, c_82⟩
                have hq9 : ([sO cy hh a kk dd b w ee qq ik] ++ (pS cy a (upd (lysS (f 2) S i) (12 + 8 * i) ((f 2 i).toInt32)) ++ ([ia cy (hh 1) 7 C] ++ (shB cy qq bi si f)))) = ([sO cy hh a kk dd b w ee qq ik] ++ (pS cy a (lysS (f 2) S (i + 1)) ++ ([ia cy (hh 1) 7 C] ++ (shB cy qq bi si f)))) := congrArg (fun z9 => [sO cy hh a kk dd b w ee qq ik] ++ (pS cy a z9 ++ ([ia cy (hh 1) 7 C] ++ (shB cy qq bi si f)))) (show (upd (lysS (f 2) S i) (12 + 8 * i) ((f 2 i).toInt32)) = (lysS (f 2) S (i + 1)) from (if_pos hin).symm)
                replace hP3 := (congrArg (fun z9 => va_P D vwCl z9 _) hq9).mp hP3
                replace hD3 := (congrArg (fun z9 => va_D _ z9) hq9).mp hD3
                clear hq9
                have hq9 : nI (lysC (f 2) (i + 1)) = nI (lysC (f 2) i + 1) := congrArg nI (if_pos hin)
                replace hl6 : lv_has ls6 7 [(3, .int (nI (lysC (f 2) (i + 1)))), (5, .long (f 2 i)), (4, .int (nI i)), (2, .ref (qq 3)), (0, .ref (hh 0)), (1, .int 2)] := (congrArg (fun z9 => lv_has ls6 7 [(3, .int z9), (5, .long (f 2 i)), (4, .int (nI i)), (2, .ref (qq 3)), (0, .ref (hh 0)), (1, .int 2)]) hq9).mpr hl6
                clear hq9
                refine lv_iinc (v := nI (i + 1)) (lv' := [(4, .int (nI (i + 1))), (3, .int (nI (lysC (f 2) (i + 1)))), (5, .long (f 2 i)), (2, .ref (qq 3)), (0, .ref (hh 0)), (1, .int 2)]) hx hb dX6_lays_101 hl6 (k := 2) rfl (nI_inc _) (by decide) rfl (fun ls7 hl7 => ?_)
                clear hl6 ls6
                refine lv_goto (tgt := 39) hx hb dX6_lays_104 (by decide) ?_
                exact ih_39 (i + 1) (⟨by first | omega | assumption | rfl | simp_all, by first | omega | assumption | rfl | simp_all⟩) (by (try dsimp only); omega) H3 locs3 ls7 hP3 hD3 hS3 (lv_sub hl7 [0, 1, 3, 4, 5] rfl)
      · refine lv_aload_n hx hb dX6_lays_28 rfl (lv_at hl1 1 rfl) ?_
        refine lv_iconst (v := 5) hx hb dX6_lays_29 (by decide) ?_
        refine cV_i (wc := [sO cy hh a kk dd b w ee qq ik, ia cy (hh 1) 7 C]) (wr := pS cy a S ++ (shB cy qq bi si f)) (rest := []) hx hb hml hown hw hG hK hP1 hD1 hS1 hA hl1 kc_X6_find kw_2_59 [.int 5] (c_X6_find l D cy G H1.size hh a kk dd b w ee qq ik C 5 (by first | omega | assumption)) [0, 11] [1, 2, 3, 4, 5, 6, 7, 8, 9, 10, 12, 13, 14, 15, 16, 17, 18, 19, 20] rfl rfl rfl rfl rfl 0 rfl rfl rfl rfl rfl (Nat.le_of_ble_eq_true rfl) ⟨Nat.le_of_ble_eq_true rfl, Nat.le_of_ble_eq_true rfl⟩ dX6_lays_30 ⟨Nat.le_of_ble_eq_true rfl, Nat.le_of_ble_eq_true rfl⟩ (fun r_30 u9 H2 locs2 hu9 hP2 hD2 hS2 => ?_)
        clear hP1 hD1 hS1 locs1 H1
        have hr_30 := hu9
        replace hP2 : va_P D vwCl (pS cy a S ++ (shB cy qq bi si f ++ ([sO cy hh a kk dd b w ee qq ik, ia cy (hh 1) 7 (upd C 5 (C 5 + 1))]))) H2 := hP2
        replace hD2 : va_D (va_A _ sz) (pS cy a S ++ (shB cy qq bi si f ++ ([sO cy hh a kk dd b w ee qq ik, ia cy (hh 1) 7 (upd C 5 (C 5 + 1))]))) := hD2
        replace hP2 := hP2.sub (ws' := [sO cy hh a kk dd b w ee qq ik] ++ (pS cy a S ++ ([ia cy (hh 1) 7 (upd C 5 (C 5 + 1))] ++ (shB cy qq bi si f)))) [19, 0, 1, 2, 3, 4, 5, 6, 7, 8, 9, 20, 10, 11, 12, 13, 14, 15, 16, 17, 18] rfl
        replace hD2 := hD2.sub (ws' := [sO cy hh a kk dd b w ee qq ik] ++ (pS cy a S ++ ([ia cy (hh 1) 7 (upd C 5 (C 5 + 1))] ++ (shB cy qq bi si f)))) [19, 0, 1, 2, 3, 4, 5, 6, 7, 8, 9, 20, 10, 11, 12, 13, 14, 15, 16, 17, 18] (by decide) rfl
        subst hr_30
        have hcd : cSh bi 2 = 5 := by unfold cSh; clear hx hb hml hown hr hlocks hw hsz hA hG hK hP2 hD2 hS2 hl1; grind
        have hq9 : ([sO cy hh a kk dd b w ee qq ik] ++ (pS cy a S ++ ([ia cy (hh 1) 7 (upd C 5 (C 5 + 1))] ++ (shB cy qq bi si f)))) = ([sO cy hh a kk dd b w ee qq ik] ++ (pS cy a S ++ ([ia cy (hh 1) 7 (fnd C (cSh bi 2))] ++ (shB cy qq bi si f)))) := congrArg (fun z9 => [sO cy hh a kk dd b w ee qq ik] ++ (pS cy a S ++ ([ia cy (hh 1) 7 z9] ++ (shB cy qq bi si f)))) (show (upd C 5 (C 5 + 1)) = (fnd C (cSh bi 2)) from fnd_f hcd (by decide))
        replace hP2 := (congrArg (fun z9 => va_P D vwCl z9 _) hq9).mp hP2
        replace hD2 := (congrArg (fun z9 => va_D _ z9) hq9).mp hD2
        clear hq9
        have hq9 : ([sO cy hh a kk dd b w ee qq ik] ++ (pS cy a S ++ ([ia cy (hh 1) 7 (fnd C (cSh bi 2))] ++ (shB cy qq bi si f)))) = ([sO cy hh a kk dd b w ee qq ik] ++ (pS cy a (if cSh bi 2 = 7 then lysS (f (bstN 2)) S (minN (bstN (si (bstN 2))) (gcN S)) else S) ++ ([ia cy (hh 1) 7 (fnd C (cSh bi 2))] ++ (shB cy qq bi si f)))) := congrArg (fun z9 => [sO cy hh a kk dd b w ee qq ik] ++ (pS cy a z9 ++ ([ia cy (hh 1) 7 (fnd C (cSh bi 2))] ++ (shB cy qq bi si f)))) (show S = (if cSh bi 2 = 7 then lysS (f (bstN 2)) S (minN (bstN (si (bstN 2))) (gcN S)) else S) from (if_neg (fun z9 => absurd (hcd.symm.trans z9) (by decide))).symm)
        replace hP2 := (congrArg (fun z9 => va_P D vwCl z9 _) hq9).mp hP2
        replace hD2 := (congrArg (fun z9 => va_D _ z9) hq9).mp hD2
        clear hq9
        refine re_i () hx hb hr hlocks hP2 hD2 hS2 dX6_lays_33 ?_
        exact (ans_f hcd (by decide) rfl)
    · refine lv_aload_n hx hb dX6_lays_14 rfl (lv_at hl0 0 rfl) ?_
      refine va_get (D := D) (ci := 6) (v := .ref (qq 0)) (C := RX6) (T := TX6) (N := 9) hx hb hw iX6 hown hK hP1 0 rfl rfl 7 (by decide) (hw _ kw_2_34) (fun _ h9 => h9) rfl dX6_lays_15 ?_
      refine lv_iload_n hx hb dX6_lays_18 rfl (lv_at hl0 1 rfl) ?_
      refine ald_q hx hb hK hP1 12 3 rfl rfl rfl 3 rfl (by first | omega | assumption) (by decide) (rfl) dX6_lays_19 ?_
      refine lv_astore_n (lv' := [(2, .ref (qq 4)), (0, .ref (hh 0)), (1, .int 3)]) hx hb dX6_lays_20 rfl hl0 (by decide) rfl (fun ls1 hl1 => ?_)
      clear hl0 ls0
      refine lv_aload_n hx hb dX6_lays_21 rfl (lv_at hl1 0 rfl) ?_
      refine va_get (D := D) (ci := 2) (v := .int (bi 3)) (C := RX2) (T := TX2) (N := 3) hx hb hw iX2 hown hK hP1 16 rfl rfl 1 (by decide) (hw _ kw_2_16) (fun _ h9 => h9) rfl dX6_lays_22 ?_
      refine lv_if_ne (tgt := 34) hx hb dX6_lays_25 (by decide) (fun c_25 => ?_) (fun c_25 => ?_)
      · refine lv_iconst (v := 0) hx hb dX6_lays_34 (by decide) ?_
        refine lv_istore_n (lv' := [(3, .int 0), (2, .ref (qq 4)), (0, .ref (hh 0)), (1, .int 3)]) hx hb dX6_lays_35 rfl hl1 (by decide) rfl (fun ls2 hl2 => ?_)
        clear hl1 ls1
        refine lv_iconst (v := 0) hx hb dX6_lays_36 (by decide) ?_
        refine lv_istore (lv' := [(4, .int 0), (3, .int 0), (2, .ref (qq 4)), (0, .ref (hh 0)), (1, .int 3)]) hx hb dX6_lays_37 hl2 (by decide) rfl (fun ls3 hl3 => ?_)
        clear hl2 ls2
        have hq9 : nI (lysC (f 3) 0) = 0 := rfl
        replace hl3 : lv_has ls3 7 [(4, .int 0), (3, .int (nI (lysC (f 3) 0))), (2, .ref (qq 4)), (0, .ref (hh 0)), (1, .int 3)] := (congrArg (fun z9 => lv_has ls3 7 [(4, .int 0), (3, .int z9), (2, .ref (qq 4)), (0, .ref (hh 0)), (1, .int 3)]) hq9).mpr hl3
        clear hq9
        have hq9 : ([sO cy hh a kk dd b w ee qq ik] ++ (pS cy a S ++ ([ia cy (hh 1) 7 C] ++ (shB cy qq bi si f)))) = ([sO cy hh a kk dd b w ee qq ik] ++ (pS cy a (lysS (f 3) S 0) ++ ([ia cy (hh 1) 7 C] ++ (shB cy qq bi si f)))) := congrArg (fun z9 => [sO cy hh a kk dd b w ee qq ik] ++ (pS cy a z9 ++ ([ia cy (hh 1) 7 C] ++ (shB cy qq bi si f)))) (show S = (lysS (f 3) S 0) from rfl)
        replace hP1 := (congrArg (fun z9 => va_P D vwCl z9 _) hq9).mp hP1
        replace hD1 := (congrArg (fun z9 => va_D _ z9) hq9).mp hD1
        clear hq9
        refine wlp (ι := Nat) (nL := 7) (fun x9 => (x9 ≤ gcN S) ∧ (x9 ≤ bstN (si 3))) (fun x9 => [sO cy hh a kk dd b w ee qq ik] ++ (pS cy a (lysS (f 3) S x9) ++ ([ia cy (hh 1) 7 C] ++ (shB cy qq bi si f)))) (fun x9 => [(4, .int (nI x9)), (3, .int (nI (lysC (f 3) x9))), (2, .ref (qq 4)), (0, .ref (hh 0)), (1, .int 3)]) (fun x9 => []) (fun x9 => gcN S - x9) 39 ?_ 0 (⟨by first | omega | assumption | rfl | simp_all, by first | omega | assumption | rfl | simp_all⟩) rfl hP1 hD1 hS1 (lv_sub hl3 [0, 1, 2, 3, 4] rfl)
        clear hP1 hD1 hS1 locs1 H1 hl3 ls3
        intro x9 hI ih_39 H2 locs2 ls4 hP2 hD2 hS2 hl4
        obtain ⟨i, rfl⟩ : ∃ z9, z9 = x9 := ⟨_, rfl⟩
        obtain ⟨hi, hi2⟩ := hI
        replace hi : i ≤ gcN S := hi
        replace hi2 : i ≤ bstN (si 3) := hi2
        replace hP2 : va_P D vwCl ([sO cy hh a kk dd b w ee qq ik] ++ (pS cy a (lysS (f 3) S i) ++ ([ia cy (hh 1) 7 C] ++ (shB cy qq bi si f)))) H2 := hP2
        replace hD2 : va_D (va_A _ sz) ([sO cy hh a kk dd b w ee qq ik] ++ (pS cy a (lysS (f 3) S i) ++ ([ia cy (hh 1) 7 C] ++ (shB cy qq bi si f)))) := hD2
        replace hl4 : lv_has ls4 7 [(4, .int (nI i)), (3, .int (nI (lysC (f 3) i))), (2, .ref (qq 4)), (0, .ref (hh 0)), (1, .int 3)] := hl4
        show W p l e _ s m _ below meth c _ _ _ _ _ (F0 m 39 ls4 [])
        refine lv_iload hx hb dX6_lays_39 (lv_at hl4 0 rfl) ?_
        refine lv_aload_n hx hb dX6_lays_41 rfl (lv_at hl4 2 rfl) ?_
        refine va_get (D := D) (ci := 2) (v := .int (si 3)) (C := RX2) (T := TX2) (N := 3) hx hb hw iX2 hown hK hP2 16 rfl rfl 2 (by decide) (hw _ kw_2_18) (fun _ h9 => h9) rfl dX6_lays_42 ?_
        refine tp (show (si 3) = nI (bstN (si 3)) from (hso 3 (by decide)).1) ?_
        refine ln_ge (tgt := 107) i (bstN (si 3)) rfl rfl (by omega) (by omega) hx hb dX6_lays_45 (by decide) (fun c_45 => ?_) (fun c_45 => ?_)
        · have hie : minN (bstN (si 3)) (gcN S) = i := minN_u (by omega) (by omega) (by omega)
          have hq9 : ([sO cy hh a kk dd b w ee qq ik] ++ (pS cy a (lysS (f 3) S i) ++ ([ia cy (hh 1) 7 C] ++ (shB cy qq bi si f)))) = ([sO cy hh a kk dd b w ee qq ik] ++ (pS cy a (lysS (f 3) S (minN (bstN (si 3)) (gcN S))) ++ ([ia cy (hh 1) 7 C] ++ (shB cy qq bi si f)))) := congrArg (fun z9 => [sO cy hh a kk dd b w ee qq ik] ++ (pS cy a z9 ++ ([ia cy (hh 1) 7 C] ++ (shB cy qq bi si f)))) (show (lysS (f 3) S i) = (lysS (f 3) S (minN (bstN (si 3)) (gcN S))) from by rw [hie])
          replace hP2 := (congrArg (fun z9 => va_P D vwCl z9 _) hq9).mp hP2
          replace hD2 := (congrArg (fun z9 => va_D _ z9) hq9).mp hD2
          clear hq9
          have hq9 : nI (lysC (f 3) (minN (bstN (si 3)) (gcN S))) = nI (lysC (f 3) i) := by rw [hie]
          replace hl4 : lv_has ls4 7 [(4, .int (nI i)), (3, .int (nI (lysC (f 3) (minN (bstN (si 3)) (gcN S))))), (2, .ref (qq 4)), (0, .ref (hh 0)), (1, .int 3)] := (congrArg (fun z9 => lv_has ls4 7 [(4, .int (nI i)), (3, .int z9), (2, .ref (qq 4)), (0, .ref (hh 0)), (1, .int 3)]) hq9).mpr hl4
          clear hq9
          refine lv_iload_n hx hb dX6_lays_107 rfl (lv_at hl4 1 rfl) ?_
          have hcd : cSh bi 3 = 7 := by unfold cSh; clear hx hb hml hown hr hlocks hw hsz hA hG hK hP2 hD2 hS2 hl4 ih_39; grind
          have hq9 : ([sO cy hh a kk dd b w ee qq ik] ++ (pS cy a (lysS (f 3) S (minN (bstN (si 3)) (gcN S))) ++ ([ia cy (hh 1) 7 C] ++ (shB cy qq bi si f)))) = ([sO cy hh a kk dd b w ee qq ik] ++ (pS cy a (lysS (f 3) S (minN (bstN (si 3)) (gcN S))) ++ ([ia cy (hh 1) 7 (fnd C (cSh bi 3))] ++ (shB cy qq bi si f)))) := congrArg (fun z9 => [sO cy hh a kk dd b w ee qq ik] ++ (pS cy a (lysS (f 3) S (minN (bstN (si 3)) (gcN S))) ++ ([ia cy (hh 1) 7 z9] ++ (shB cy qq bi si f)))) (show C = (fnd C (cSh bi 3)) from fnd_o hcd)
          replace hP2 := (congrArg (fun z9 => va_P D vwCl z9 _) hq9).mp hP2
          replace hD2 := (congrArg (fun z9 => va_D _ z9) hq9).mp hD2
          clear hq9
          have hq9 : ([sO cy hh a kk dd b w ee qq ik] ++ (pS cy a (lysS (f 3) S (minN (bstN (si 3)) (gcN S))) ++ ([ia cy (hh 1) 7 (fnd C (cSh bi 3))] ++ (shB cy qq bi si f)))) = ([sO cy hh a kk dd b w ee qq ik] ++ (pS cy a (if cSh bi 3 = 7 then lysS (f (bstN 3)) S (minN (bstN (si (bstN 3))) (gcN S)) else S) ++ ([ia cy (hh 1) 7 (fnd C (cSh bi 3))] ++ (shB cy qq bi si f)))) := congrArg (fun z9 => [sO cy hh a kk dd b w ee qq ik] ++ (pS cy a z9 ++ ([ia cy (hh 1) 7 (fnd C (cSh bi 3))] ++ (shB cy qq bi si f)))) (show (lysS (f 3) S (minN (bstN (si 3)) (gcN S))) = (if cSh bi 3 = 7 then lysS (f (bstN 3)) S (minN (bstN (si (bstN 3))) (gcN S)) else S) from by rw [if_pos hcd]; simp only [hb0, hb1, hb2, hb3])
          replace hP2 := (congrArg (fun z9 => va_P D vwCl z9 _) hq9).mp hP2
          replace hD2 := (congrArg (fun z9 => va_D _ z9) hq9).mp hD2
          clear hq9
          refine re_i () hx hb hr hlocks hP2 hD2 hS2 dX6_lays_108 ?_
          exact (ans_o hcd (by simp only [hb0, hb1, hb2, hb3]))
        · refine lv_iload hx hb dX6_lays_48 (lv_at hl4 0 rfl) ?_
          refine lv_aload_n hx hb dX6_lays_50 rfl (lv_at hl4 3 rfl) ?_
          refine va_get (D := D) (ci := 6) (v := .ref (a 0)) (C := RX6) (T := TX6) (N := 9) hx hb hw iX6 hown hK hP2 0 rfl rfl 0 (by decide) (hw _ kw_2_27) (fun _ h9 => h9) rfl dX6_lays_51 ?_
          refine va_get (D := D) (ci := 1) (v := .int ((lysS (f 3) S i) 1)) (C := RX1) (T := TX1) (N := 12) hx hb hw iX1 hown hK hP2 1 rfl rfl 1 (by decide) (hw _ kw_1_35) (fun _ h9 => h9) rfl dX6_lays_54 ?_
          refine tp (show ((lysS (f 3) S i) 1) = nI (gcN S) from (lysS_lo (f 3) S (by decide) i).trans (wf_g wf)) ?_
          refine ln_ge (tgt := 107) i (gcN S) rfl rfl (by omega) (by omega) hx hb dX6_lays_57 (by decide) (fun c_57 => ?_) (fun c_57 => ?_)
          · have hie : minN (bstN (si 3)) (gcN S) = i := minN_u (by omega) (by omega) (by omega)
            have hq9 : ([sO cy hh a kk dd b w ee qq ik] ++ (pS cy a (lysS (f 3) S i) ++ ([ia cy (hh 1) 7 C] ++ (shB cy qq bi si f)))) = ([sO cy hh a kk dd b w ee qq ik] ++ (pS cy a (lysS (f 3) S (minN (bstN (si 3)) (gcN S))) ++ ([ia cy (hh 1) 7 C] ++ (shB cy qq bi si f)))) := congrArg (fun z9 => [sO cy hh a kk dd b w ee qq ik] ++ (pS cy a z9 ++ ([ia cy (hh 1) 7 C] ++ (shB cy qq bi si f)))) (show (lysS (f 3) S i) = (lysS (f 3) S (minN (bstN (si 3)) (gcN S))) from by rw [hie])
            replace hP2 := (congrArg (fun z9 => va_P D vwCl z9 _) hq9).mp hP2
            replace hD2 := (congrArg (fun z9 => va_D _ z9) hq9).mp hD2
            clear hq9
            have hq9 : nI (lysC (f 3) (minN (bstN (si 3)) (gcN S))) = nI (lysC (f 3) i) := by rw [hie]
            replace hl4 : lv_has ls4 7 [(4, .int (nI i)), (3, .int (nI (lysC (f 3) (minN (bstN (si 3)) (gcN S))))), (2, .ref (qq 4)), (0, .ref (hh 0)), (1, .int 3)] := (congrArg (fun z9 => lv_has ls4 7 [(4, .int (nI i)), (3, .int z9), (2, .ref (qq 4)), (0, .ref (hh 0)), (1, .int 3)]) hq9).mpr hl4
            clear hq9
            refine lv_iload_n hx hb dX6_lays_107 rfl (lv_at hl4 1 rfl) ?_
            have hcd : cSh bi 3 = 7 := by unfold cSh; clear hx hb hml hown hr hlocks hw hsz hA hG hK hP2 hD2 hS2 hl4 ih_39; grind
            have hq9 : ([sO cy hh a kk dd b w ee qq ik] ++ (pS cy a (lysS (f 3) S (minN (bstN (si 3)) (gcN S))) ++ ([ia cy (hh 1) 7 C] ++ (shB cy qq bi si f)))) = ([sO cy hh a kk dd b w ee qq ik] ++ (pS cy a (lysS (f 3) S (minN (bstN (si 3)) (gcN S))) ++ ([ia cy (hh 1) 7 (fnd C (cSh bi 3))] ++ (shB cy qq bi si f)))) := congrArg (fun z9 => [sO cy hh a kk dd b w ee qq ik] ++ (pS cy a (lysS (f 3) S (minN (bstN (si 3)) (gcN S))) ++ ([ia cy (hh 1) 7 z9] ++ (shB cy qq bi si f)))) (show C = (fnd C (cSh bi 3)) from fnd_o hcd)
            replace hP2 := (congrArg (fun z9 => va_P D vwCl z9 _) hq9).mp hP2
            replace hD2 := (congrArg (fun z9 => va_D _ z9) hq9).mp hD2
            clear hq9
            have hq9 : ([sO cy hh a kk dd b w ee qq ik] ++ (pS cy a (lysS (f 3) S (minN (bstN (si 3)) (gcN S))) ++ ([ia cy (hh 1) 7 (fnd C (cSh bi 3))] ++ (shB cy qq bi si f)))) = ([sO cy hh a kk dd b w ee qq ik] ++ (pS cy a (if cSh bi 3 = 7 then lysS (f (bstN 3)) S (minN (bstN (si (bstN 3))) (gcN S)) else S) ++ ([ia cy (hh 1) 7 (fnd C (cSh bi 3))] ++ (shB cy qq bi si f)))) := congrArg (fun z9 => [sO cy hh a kk dd b w ee qq ik] ++ (pS cy a z9 ++ ([ia cy (hh 1) 7 (fnd C (cSh bi 3))] ++ (shB cy qq bi si f)))) (show (lysS (f 3) S (minN (bstN (si 3)) (gcN S))) = (if cSh bi 3 = 7 then lysS (f (bstN 3)) S (minN (bstN (si (bstN 3))) (gcN S)) else S) from by rw [if_pos hcd]; simp only [hb0, hb1, hb2, hb3])
            replace hP2 := (congrArg (fun z9 => va_P D vwCl z9 _) hq9).mp hP2
            replace hD2 := (congrArg (fun z9 => va_D _ z9) hq9).mp hD2
            clear hq9
            refine re_i () hx hb hr hlocks hP2 hD2 hS2 dX6_lays_108 ?_
            exact (ans_o hcd (by simp only [hb0, hb1, hb2, hb3]))
          · refine lv_aload_n hx hb dX6_lays_60 rfl (lv_at hl4 2 rfl) ?_
            refine va_get (D := D) (ci := 2) (v := .ref (qq 8)) (C := RX2) (T := TX2) (N := 3) hx hb hw iX2 hown hK hP2 16 rfl rfl 0 (by decide) (hw _ kw_2_14) (fun _ h9 => h9) rfl dX6_lays_61 ?_
            refine lv_iload hx hb dX6_lays_64 (lv_at hl4 0 rfl) ?_
            refine ald_l (f := f 3) hx hb hK hP2 20 1 rfl rfl i rfl (by first | omega | assumption) (by decide) dX6_lays_66 ?_
            refine lv_lstore (lv' := [(5, .long (f 3 i)), (4, .int (nI i)), (3, .int (nI (lysC (f 3) i))), (2, .ref (qq 4)), (0, .ref (hh 0)), (1, .int 3)]) hx hb dX6_lays_67 hl4 (by decide) rfl (fun ls5 hl5 => ?_)
            clear hl4 ls4
            refine lv_lload hx hb dX6_lays_69 (lv_at hl5 0 rfl) ?_
            refine lv_lconst (v := 0) hx hb dX6_lays_71 (by decide) ?_
            refine W.lcmp hx hb dX6_lays_72 ?_
            refine lv_if_lt (tgt := 101) hx hb dX6_lays_73 (by decide) (fun c_73 => ?_) (fun c_73 => ?_)
            · have hin : ¬ (0 ≤ f 3 i ∧ f 3 i ≤ 99) := fun z9 => (lt_in.mpr z9).1 c_73
              have hq9 : ([sO cy hh a kk dd b w ee qq ik] ++ (pS cy a (lysS (f 3) S i) ++ ([ia cy (hh 1) 7 C] ++ (shB cy qq bi si f)))) = ([sO cy hh a kk dd b w ee qq ik] ++ (pS cy a (lysS (f 3) S (i + 1)) ++ ([ia cy (hh 1) 7 C] ++ (shB cy qq bi si f)))) := congrArg (fun z9 => [sO cy hh a kk dd b w ee qq ik] ++ (pS cy a z9 ++ ([ia cy (hh 1) 7 C] ++ (shB cy qq bi si f)))) (show (lysS (f 3) S i) = (lysS (f 3) S (i + 1)) from (if_neg hin).symm)
              replace hP2 := (congrArg (fun z9 => va_P D vwCl z9 _) hq9).mp hP2
              replace hD2 := (congrArg (fun z9 => va_D _ z9) hq9).mp hD2
              clear hq9
              have hq9 : nI (lysC (f 3) (i + 1)) = nI (lysC (f 3) i) := congrArg nI (if_neg hin)
              replace hl5 : lv_has ls5 7 [(5, .long (f 3 i)), (4, .int (nI i)), (3, .int (nI (lysC (f 3) (i + 1)))), (2, .ref (qq 4)), (0, .ref (hh 0)), (1, .int 3)] := (congrArg (fun z9 => lv_has ls5 7 [(5, .long (f 3 i)), (4, .int (nI i)), (3, .int z9), (2, .ref (qq 4)), (0, .ref (hh 0)), (1, .int 3)]) hq9).mpr hl5
              clear hq9
              refine lv_iinc (v := nI (i + 1)) (lv' := [(4, .int (nI (i + 1))), (5, .long (f 3 i)), (3, .int (nI (lysC (f 3) (i + 1)))), (2, .ref (qq 4)), (0, .ref (hh 0)), (1, .int 3)]) hx hb dX6_lays_101 hl5 (k := 1) rfl (nI_inc _) (by decide) rfl (fun ls6 hl6 => ?_)
              clear hl5 ls5
              refine lv_goto (tgt := 39) hx hb dX6_lays_104 (by decide) ?_
              exact ih_39 (i + 1) (⟨by first | omega | assumption | rfl | simp_all, by first | omega | assumption | rfl | simp_all⟩) (by (try dsimp only); omega) H2 locs2 ls6 hP2 hD2 hS2 (lv_sub hl6 [0, 2, 3, 4, 5] rfl)
            · refine lv_lload hx hb dX6_lays_76 (lv_at hl5 0 rfl) ?_
              refine lv_ldc2 (v := 99) hx hb hown (hw _ kw_4_21) dX6_lays_78 ?_
              refine W.lcmp hx hb dX6_lays_81 ?_
              refine lv_if_gt (tgt := 101) hx hb dX6_lays_82 (by decide) (fun c_82 => ?_) (fun c_82 => ?_)
              · have hin : ¬ (0 ≤ f 3 i ∧ f 3 i ≤ 99) := fun z9 => (lt_in.mpr z9).2 c_82
                have hq9 : ([sO cy hh a kk dd b w ee qq ik] ++ (pS cy a (lysS (f 3) S i) ++ ([ia cy (hh 1) 7 C] ++ (shB cy qq bi si f)))) = ([sO cy hh a kk dd b w ee qq ik] ++ (pS cy a (lysS (f 3) S (i + 1)) ++ ([ia cy (hh 1) 7 C] ++ (shB cy qq bi si f)))) := congrArg (fun z9 => [sO cy hh a kk dd b w ee qq ik] ++ (pS cy a z9 ++ ([ia cy (hh 1) 7 C] ++ (shB cy qq bi si f)))) (show (lysS (f 3) S i) = (lysS (f 3) S (i + 1)) from (if_neg hin).symm)
                replace hP2 := (congrArg (fun z9 => va_P D vwCl z9 _) hq9).mp hP2
                replace hD2 := (congrArg (fun z9 => va_D _ z9) hq9).mp hD2
                clear hq9
                have hq9 : nI (lysC (f 3) (i + 1)) = nI (lysC (f 3) i) := congrArg nI (if_neg hin)
                replace hl5 : lv_has ls5 7 [(5, .long (f 3 i)), (4, .int (nI i)), (3, .int (nI (lysC (f 3) (i + 1)))), (2, .ref (qq 4)), (0, .ref (hh 0)), (1, .int 3)] := (congrArg (fun z9 => lv_has ls5 7 [(5, .long (f 3 i)), (4, .int (nI i)), (3, .int z9), (2, .ref (qq 4)), (0, .ref (hh 0)), (1, .int 3)]) hq9).mpr hl5
                clear hq9
                refine lv_iinc (v := nI (i + 1)) (lv' := [(4, .int (nI (i + 1))), (5, .long (f 3 i)), (3, .int (nI (lysC (f 3) (i + 1)))), (2, .ref (qq 4)), (0, .ref (hh 0)), (1, .int 3)]) hx hb dX6_lays_101 hl5 (k := 1) rfl (nI_inc _) (by decide) rfl (fun ls6 hl6 => ?_)
                clear hl5 ls5
                refine lv_goto (tgt := 39) hx hb dX6_lays_104 (by decide) ?_
                exact ih_39 (i + 1) (⟨by first | omega | assumption | rfl | simp_all, by first | omega | assumption | rfl | simp_all⟩) (by (try dsimp only); omega) H2 locs2 ls6 hP2 hD2 hS2 (lv_sub hl6 [0, 2, 3, 4, 5] rfl)
              · refine lv_aload_n hx hb dX6_lays_85 rfl (lv_at hl5 4 rfl) ?_
                refine va_get (D := D) (ci := 6) (v := .ref (a 0)) (C := RX6) (T := TX6) (N := 9) hx hb hw iX6 hown hK hP2 0 rfl rfl 0 (by decide) (hw _ kw_2_27) (fun _ h9 => h9) rfl dX6_lays_86 ?_
                refine va_get (D := D) (ci := 1) (v := .ref (a 4)) (C := RX1) (T := TX1) (N := 12) hx hb hw iX1 hown hK hP2 1 rfl rfl 5 (by decide) (hw _ kw_1_49) (fun _ h9 => h9) rfl dX6_lays_89 ?_
                refine lv_iload hx hb dX6_lays_92 (lv_at hl5 1 rfl) ?_
                refine lv_lload hx hb dX6_lays_94 (lv_at hl5 0 rfl) ?_
                refine lv_l2i hx hb dX6_lays_96 rfl ?_
                refine ast_i (f := fun g => (lysS (f 3) S i) (12 + 8 * g)) (ws' := [sO cy hh a kk dd b w ee qq ik] ++ (pS cy a (upd (lysS (f 3) S i) (12 + 8 * i) ((f 3 i).toInt32)) ++ ([ia cy (hh 1) 7 C] ++ (shB cy qq bi si f)))) hx hb hK hP2 hD2 hS2 5 0 rfl rfl i rfl (by first | omega | assumption) (by decide) (congrArg (fun z => [sO cy hh a kk dd b w ee qq ik] ++ (z ++ ([ia cy (hh 1) 7 C] ++ (shB cy qq bi si f)))) (pS_a3 cy a (lysS (f 3) S i) i ((f 3 i).toInt32))) dX6_lays_97 (fun H3 locs3 hP3 hD3 hS3 => ?_)
                clear hP2 hD2 hS2 locs2 H2
                refine lv_iinc (v := nI (lysC (f 3) i + 1)) (lv' := [(3, .int (nI (lysC (f 3) i + 1))), (5, .long (f 3 i)), (4, .int (nI i)), (2, .ref (qq 4)), (0, .ref (hh 0)), (1, .int 3)]) hx hb dX6_lays_98 hl5 (k := 2) rfl (nI_inc _) (by decide) rfl (fun ls6 hl6 => ?_)
                clear hl5 ls5
                have hin := lt_in.mp ⟨c_73, c_82⟩
                have hq9 : ([sO cy hh a kk dd b w ee qq ik] ++ (pS cy a (upd (lysS (f 3) S i) (12 + 8 * i) ((f 3 i).toInt32)) ++ ([ia cy (hh 1) 7 C] ++ (shB cy qq bi si f)))) = ([sO cy hh a kk dd b w ee qq ik] ++ (pS cy a (lysS (f 3) S (i + 1)) ++ ([ia cy (hh 1) 7 C] ++ (shB cy qq bi si f)))) := congrArg (fun z9 => [sO cy hh a kk dd b w ee qq ik] ++ (pS cy a z9 ++ ([ia cy (hh 1) 7 C] ++ (shB cy qq bi si f)))) (show (upd (lysS (f 3) S i) (12 + 8 * i) ((f 3 i).toInt32)) = (lysS (f 3) S (i + 1)) from (if_pos hin).symm)
                replace hP3 := (congrArg (fun z9 => va_P D vwCl z9 _) hq9).mp hP3
                replace hD3 := (congrArg (fun z9 => va_D _ z9) hq9).mp hD3
                clear hq9
                have hq9 : nI (lysC (f 3) (i + 1)) = nI (lysC (f 3) i + 1) := congrArg nI (if_pos hin)
                replace hl6 : lv_has ls6 7 [(3, .int (nI (lysC (f 3) (i + 1)))), (5, .long (f 3 i)), (4, .int (nI i)), (2, .ref (qq 4)), (0, .ref (hh 0)), (1, .int 3)] := (congrArg (fun z9 => lv_has ls6 7 [(3, .int z9), (5, .long (f 3 i)), (4, .int (nI i)), (2, .ref (qq 4)), (0, .ref (hh 0)), (1, .int 3)]) hq9).mpr hl6
                clear hq9
                refine lv_iinc (v := nI (i + 1)) (lv' := [(4, .int (nI (i + 1))), (3, .int (nI (lysC (f 3) (i + 1)))), (5, .long (f 3 i)), (2, .ref (qq 4)), (0, .ref (hh 0)), (1, .int 3)]) hx hb dX6_lays_101 hl6 (k := 2) rfl (nI_inc _) (by decide) rfl (fun ls7 hl7 => ?_)
                clear hl6 ls6
                refine lv_goto (tgt := 39) hx hb dX6_lays_104 (by decide) ?_
                exact ih_39 (i + 1) (⟨by first | omega | assumption | rfl | simp_all, by first | omega | assumption | rfl | simp_all⟩) (by (try dsimp only); omega) H3 locs3 ls7 hP3 hD3 hS3 (lv_sub hl7 [0, 1, 3, 4, 5] rfl)
      · refine lv_aload_n hx hb dX6_lays_28 rfl (lv_at hl1 1 rfl) ?_
        refine lv_iconst (v := 5) hx hb dX6_lays_29 (by decide) ?_
        refine cV_i (wc := [sO cy hh a kk dd b w ee qq ik, ia cy (hh 1) 7 C]) (wr := pS cy a S ++ (shB cy qq bi si f)) (rest := []) hx hb hml hown hw hG hK hP1 hD1 hS1 hA hl1 kc_X6_find kw_2_59 [.int 5] (c_X6_find l D cy G H1.size hh a kk dd b w ee qq ik C 5 (by first | omega | assumption)) [0, 11] [1, 2, 3, 4, 5, 6, 7, 8, 9, 10, 12, 13, 14, 15, 16, 17, 18, 19, 20] rfl rfl rfl rfl rfl 0 rfl rfl rfl rfl rfl (Nat.le_of_ble_eq_true rfl) ⟨Nat.le_of_ble_eq_true rfl, Nat.le_of_ble_eq_true rfl⟩ dX6_lays_30 ⟨Nat.le_of_ble_eq_true rfl, Nat.le_of_ble_eq_true rfl⟩ (fun r_30 u9 H2 locs2 hu9 hP2 hD2 hS2 => ?_)
        clear hP1 hD1 hS1 locs1 H1
        have hr_30 := hu9
        replace hP2 : va_P D vwCl (pS cy a S ++ (shB cy qq bi si f ++ ([sO cy hh a kk dd b w ee qq ik, ia cy (hh 1) 7 (upd C 5 (C 5 + 1))]))) H2 := hP2
        replace hD2 : va_D (va_A _ sz) (pS cy a S ++ (shB cy qq bi si f ++ ([sO cy hh a kk dd b w ee qq ik, ia cy (hh 1) 7 (upd C 5 (C 5 + 1))]))) := hD2
        replace hP2 := hP2.sub (ws' := [sO cy hh a kk dd b w ee qq ik] ++ (pS cy a S ++ ([ia cy (hh 1) 7 (upd C 5 (C 5 + 1))] ++ (shB cy qq bi si f)))) [19, 0, 1, 2, 3, 4, 5, 6, 7, 8, 9, 20, 10, 11, 12, 13, 14, 15, 16, 17, 18] rfl
        replace hD2 := hD2.sub (ws' := [sO cy hh a kk dd b w ee qq ik] ++ (pS cy a S ++ ([ia cy (hh 1) 7 (upd C 5 (C 5 + 1))] ++ (shB cy qq bi si f)))) [19, 0, 1, 2, 3, 4, 5, 6, 7, 8, 9, 20, 10, 11, 12, 13, 14, 15, 16, 17, 18] (by decide) rfl
        subst hr_30
        have hcd : cSh bi 3 = 5 := by unfold cSh; clear hx hb hml hown hr hlocks hw hsz hA hG hK hP2 hD2 hS2 hl1; grind
        have hq9 : ([sO cy hh a kk dd b w ee qq ik] ++ (pS cy a S ++ ([ia cy (hh 1) 7 (upd C 5 (C 5 + 1))] ++ (shB cy qq bi si f)))) = ([sO cy hh a kk dd b w ee qq ik] ++ (pS cy a S ++ ([ia cy (hh 1) 7 (fnd C (cSh bi 3))] ++ (shB cy qq bi si f)))) := congrArg (fun z9 => [sO cy hh a kk dd b w ee qq ik] ++ (pS cy a S ++ ([ia cy (hh 1) 7 z9] ++ (shB cy qq bi si f)))) (show (upd C 5 (C 5 + 1)) = (fnd C (cSh bi 3)) from fnd_f hcd (by decide))
        replace hP2 := (congrArg (fun z9 => va_P D vwCl z9 _) hq9).mp hP2
        replace hD2 := (congrArg (fun z9 => va_D _ z9) hq9).mp hD2
        clear hq9
        have hq9 : ([sO cy hh a kk dd b w ee qq ik] ++ (pS cy a S ++ ([ia cy (hh 1) 7 (fnd C (cSh bi 3))] ++ (shB cy qq bi si f)))) = ([sO cy hh a kk dd b w ee qq ik] ++ (pS cy a (if cSh bi 3 = 7 then lysS (f (bstN 3)) S (minN (bstN (si (bstN 3))) (gcN S)) else S) ++ ([ia cy (hh 1) 7 (fnd C (cSh bi 3))] ++ (shB cy qq bi si f)))) := congrArg (fun z9 => [sO cy hh a kk dd b w ee qq ik] ++ (pS cy a z9 ++ ([ia cy (hh 1) 7 (fnd C (cSh bi 3))] ++ (shB cy qq bi si f)))) (show S = (if cSh bi 3 = 7 then lysS (f (bstN 3)) S (minN (bstN (si (bstN 3))) (gcN S)) else S) from (if_neg (fun z9 => absurd (hcd.symm.trans z9) (by decide))).symm)
        replace hP2 := (congrArg (fun z9 => va_P D vwCl z9 _) hq9).mp hP2
        replace hD2 := (congrArg (fun z9 => va_D _ z9) hq9).mp hD2
        clear hq9
        refine re_i () hx hb hr hlocks hP2 hD2 hS2 dX6_lays_33 ?_
        exact (ans_f hcd (by decide) rfl)
  · refine lv_aload_n hx hb dX6_lays_8 rfl (lv_at hl0 0 rfl) ?_
    refine lv_iconst (v := 0) hx hb dX6_lays_9 (by decide) ?_
    refine cV_i (wc := [sO cy hh a kk dd b w ee qq ik, ia cy (hh 1) 7 C]) (wr := pS cy a S ++ (shB cy qq bi si f)) (rest := []) hx hb hml hown hw hG hK hP1 hD1 hS1 hA hl0 kc_X6_find kw_2_59 [.int 0] (c_X6_find l D cy G H1.size hh a kk dd b w ee qq ik C 0 (by first | omega | assumption)) [0, 11] [1, 2, 3, 4, 5, 6, 7, 8, 9, 10, 12, 13, 14, 15, 16, 17, 18, 19, 20] rfl rfl rfl rfl rfl 0 rfl rfl rfl rfl rfl (Nat.le_of_ble_eq_true rfl) ⟨Nat.le_of_ble_eq_true rfl, Nat.le_of_ble_eq_true rfl⟩ dX6_lays_10 ⟨Nat.le_of_ble_eq_true rfl, Nat.le_of_ble_eq_true rfl⟩ (fun r_10 u9 H2 locs2 hu9 hP2 hD2 hS2 => ?_)
    clear hP1 hD1 hS1 locs1 H1
    have hr_10 := hu9
    replace hP2 : va_P D vwCl (pS cy a S ++ (shB cy qq bi si f ++ ([sO cy hh a kk dd b w ee qq ik, ia cy (hh 1) 7 (upd C 0 (C 0 + 1))]))) H2 := hP2
    replace hD2 : va_D (va_A _ sz) (pS cy a S ++ (shB cy qq bi si f ++ ([sO cy hh a kk dd b w ee qq ik, ia cy (hh 1) 7 (upd C 0 (C 0 + 1))]))) := hD2
    replace hP2 := hP2.sub (ws' := [sO cy hh a kk dd b w ee qq ik] ++ (pS cy a S ++ ([ia cy (hh 1) 7 (upd C 0 (C 0 + 1))] ++ (shB cy qq bi si f)))) [19, 0, 1, 2, 3, 4, 5, 6, 7, 8, 9, 20, 10, 11, 12, 13, 14, 15, 16, 17, 18] rfl
    replace hD2 := hD2.sub (ws' := [sO cy hh a kk dd b w ee qq ik] ++ (pS cy a S ++ ([ia cy (hh 1) 7 (upd C 0 (C 0 + 1))] ++ (shB cy qq bi si f)))) [19, 0, 1, 2, 3, 4, 5, 6, 7, 8, 9, 20, 10, 11, 12, 13, 14, 15, 16, 17, 18] (by decide) rfl
    subst hr_10
    have hcd : cSh bi x1 = 0 := by unfold cSh; clear hx hb hml hown hr hlocks hw hsz hA hG hK hP2 hD2 hS2 hl0; grind
    have hq9 : ([sO cy hh a kk dd b w ee qq ik] ++ (pS cy a S ++ ([ia cy (hh 1) 7 (upd C 0 (C 0 + 1))] ++ (shB cy qq bi si f)))) = ([sO cy hh a kk dd b w ee qq ik] ++ (pS cy a S ++ ([ia cy (hh 1) 7 (fnd C (cSh bi x1))] ++ (shB cy qq bi si f)))) := congrArg (fun z9 => [sO cy hh a kk dd b w ee qq ik] ++ (pS cy a S ++ ([ia cy (hh 1) 7 z9] ++ (shB cy qq bi si f)))) (show (upd C 0 (C 0 + 1)) = (fnd C (cSh bi x1)) from fnd_f hcd (by decide))
    replace hP2 := (congrArg (fun z9 => va_P D vwCl z9 _) hq9).mp hP2
    replace hD2 := (congrArg (fun z9 => va_D _ z9) hq9).mp hD2
    clear hq9
    have hq9 : ([sO cy hh a kk dd b w ee qq ik] ++ (pS cy a S ++ ([ia cy (hh 1) 7 (fnd C (cSh bi x1))] ++ (shB cy qq bi si f)))) = ([sO cy hh a kk dd b w ee qq ik] ++ (pS cy a (if cSh bi x1 = 7 then lysS (f (bstN x1)) S (minN (bstN (si (bstN x1))) (gcN S)) else S) ++ ([ia cy (hh 1) 7 (fnd C (cSh bi x1))] ++ (shB cy qq bi si f)))) := congrArg (fun z9 => [sO cy hh a kk dd b w ee qq ik] ++ (pS cy a z9 ++ ([ia cy (hh 1) 7 (fnd C (cSh bi x1))] ++ (shB cy qq bi si f)))) (show S = (if cSh bi x1 = 7 then lysS (f (bstN x1)) S (minN (bstN (si (bstN x1))) (gcN S)) else S) from (if_neg (fun z9 => absurd (hcd.symm.trans z9) (by decide))).symm)
    replace hP2 := (congrArg (fun z9 => va_P D vwCl z9 _) hq9).mp hP2
    replace hD2 := (congrArg (fun z9 => va_D _ z9) hq9).mp hD2
    clear hq9
    refine re_i () hx hb hr hlocks hP2 hD2 hS2 dX6_lays_13 ?_
    exact (ans_f hcd (by decide) rfl)

theorem kc_X6_read : kV yX6_read cX6_read 4 (some .int) 1 := ⟨kw_4_23, kw_4_24, kw_1_1, kw_4_25, by decide, by decide, by decide +kernel⟩
set_option maxHeartbeats 4000000 in
set_option maxRecDepth 100000 in
theorem c_X6_read (l : Launch) (D : va_G) (cy : Nat → ClassId) (G : Nat → Nat) (sz : Nat) (hh : Nat → Nat) (a : Nat → Nat) (kk : Nat → Nat) (dd : Nat → Nat) (b : Nat → Nat) (w : Nat → Nat) (ee : Nat → Nat) (qq : Nat → Nat) (ik : Int32) (S : Nat → Int32) (C : Nat → Int32) (P : Nat → Int32) (F : Nat → Int32) (N : Nat → Int32) (B : Nat → Int32) (O : Nat → Int32) (Sd : Nat → Int32) (Dv : Nat → Int32) (L : Nat → Nat → Int32) (rc : Int32) (re : Int32) (fr : Int32) (lo : Int32) (sm : Int32) (bi : Nat → Int32) (si : Nat → Int32) (f : Nat → Nat → Int64) (x1 : Int32) (hso : shOk si f) (wf : wf S) : Met l yX6_read (wm yX6_read cX6_read 4 (some .int)) { frames := 5, cells := 0, slots := 0, locals := 109 } (va_Pc [.ref (hh 0), .int x1] (pr D (TY cy) G ([sO cy hh a kk dd b w ee qq ik] ++ (pS cy a S ++ ([ia cy (hh 1) 7 C] ++ (aS cy b P F N B O Sd Dv L rc re fr lo sm ++ (shB cy qq bi si f))))) sz)) (va_Qi (fun (r : Int32) (u : (Nat → Int32) × (Nat → Int32) × (Nat → Int32) × (Nat → Int32) × (Nat → Int32) × (Nat → Int32) × (Nat → Int32) × (Nat → Nat → Int32) × Int32 × Int32 × Int32 × Int32 × Int32) => r = ans (cSh bi x1) (vRead S (f (bstN x1)) (bstN (si (bstN x1))))) (fun (u : (Nat → Int32) × (Nat → Int32) × (Nat → Int32) × (Nat → Int32) × (Nat → Int32) × (Nat → Int32) × (Nat → Int32) × (Nat → Nat → Int32) × Int32 × Int32 × Int32 × Int32 × Int32) t => po D (va_A ([sO cy hh a kk dd b w ee qq ik] ++ (pS cy a S ++ ([ia cy (hh 1) 7 C] ++ (aS cy b P F N B O Sd Dv L rc re fr lo sm ++ (shB cy qq bi si f))))) sz) ([sO cy hh a kk dd b w ee qq ik] ++ (pS cy a S ++ ([ia cy (hh 1) 7 (fnd C (cSh bi x1))] ++ (aS cy b u.1 u.2.1 u.2.2.1 u.2.2.2.1 u.2.2.2.2.1 u.2.2.2.2.2.1 u.2.2.2.2.2.2.1 u.2.2.2.2.2.2.2.1 u.2.2.2.2.2.2.2.2.1 u.2.2.2.2.2.2.2.2.2.1 u.2.2.2.2.2.2.2.2.2.2.1 u.2.2.2.2.2.2.2.2.2.2.2.1 u.2.2.2.2.2.2.2.2.2.2.2.2 ++ (shB cy qq bi si f))))) t) (va_A ([sO cy hh a kk dd b w ee qq ik] ++ (pS cy a S ++ ([ia cy (hh 1) 7 C] ++ (aS cy b P F N B O Sd Dv L rc re fr lo sm ++ (shB cy qq bi si f))))) sz)) 0 0 (va_A ([sO cy hh a kk dd b w ee qq ik] ++ (pS cy a S ++ ([ia cy (hh 1) 7 C] ++ (aS cy b P F N B O Sd Dv L rc re fr lo sm ++ (shB cy qq bi si f))))) sz) := by
  refine mk_rw (by decide) RX6 rfl (Nat.le_of_ble_eq_true rfl) [(0, .ref (hh 0)), (1, .int x1)] rfl ?_
  intro p e s m below meth c hx hb hml hown hr hlocks hin hw hsz hA hG hK H0 locs0 hP0 hD0 hS0 ls0 hl0
  clear hin
  have hg20 := wf_g20 wf
  have hr6 := wf_r6 wf
  have hz0 := (hso 0 (by decide)).1
  have hz1 := (hso 1 (by decide)).1
  have hz2 := (hso 2 (by decide)).1
  have hz3 := (hso 3 (by decide)).1
  have hq0 := (hso 0 (by decide)).2.1
  have hq1 := (hso 1 (by decide)).2.1
  have hq2 := (hso 2 (by decide)).2.1
  have hq3 := (hso 3 (by decide)).2.1
  have hb0 : bstN 0 = 0 := rfl
  have hb1 : bstN 1 = 1 := rfl
  have hb2 : bstN 2 = 2 := rfl
  have hb3 : bstN 3 = 3 := rfl
  refine lv_aload_n hx hb dX6_read_0 rfl (lv_at hl0 0 rfl) ?_
  refine lv_iload_n hx hb dX6_read_1 rfl (lv_at hl0 1 rfl) ?_
  refine rV_i (wc := [sO cy hh a kk dd b w ee qq ik]) (rest := []) hx hb hml hown hw hG hK hP0 hS0 hA hl0 kc_X6_isSheet kw_3_128 [.int x1] (c_X6_isSheet l D cy G H0.size hh a kk dd b w ee qq ik x1) [0] rfl 0 rfl rfl rfl rfl rfl (Nat.le_of_ble_eq_true rfl) ⟨Nat.le_of_ble_eq_true rfl, Nat.le_of_ble_eq_true rfl⟩ dX6_read_2 ⟨Nat.le_of_ble_eq_true rfl, Nat.le_of_ble_eq_true rfl⟩ (fun r_2 H1 locs1 hr_2 hP1 hS1 => ?_)
  have hD1 := hD0
  clear hP0 hD0 hS0 locs0 H0
  subst hr_2
  refine lb_ne (tgt := 14) hx hb dX6_read_5 (by decide) (fun c_5 => ?_) (fun c_5 => ?_)
  · rcases in3 c_5 with rfl | rfl | rfl | rfl
    · refine lv_aload_n hx hb dX6_read_14 rfl (lv_at hl0 0 rfl) ?_
      refine va_get (D := D) (ci := 6) (v := .ref (qq 0)) (C := RX6) (T := TX6) (N := 9) hx hb hw iX6 hown hK hP1 0 rfl rfl 7 (by decide) (hw _ kw_2_34) (fun _ h9 => h9) rfl dX6_read_15 ?_
      refine lv_iload_n hx hb dX6_read_18 rfl (lv_at hl0 1 rfl) ?_
      refine ald_q hx hb hK hP1 27 3 rfl rfl rfl 0 rfl (by first | omega | assumption) (by decide) (rfl) dX6_read_19 ?_
      refine lv_astore_n (lv' := [(2, .ref (qq 1)), (0, .ref (hh 0)), (1, .int 0)]) hx hb dX6_read_20 rfl hl0 (by decide) rfl (fun ls1 hl1 => ?_)
      clear hl0 ls0
      refine lv_aload_n hx hb dX6_read_21 rfl (lv_at hl1 0 rfl) ?_
      refine va_get (D := D) (ci := 2) (v := .int (bi 0)) (C := RX2) (T := TX2) (N := 3) hx hb hw iX2 hown hK hP1 28 rfl rfl 1 (by decide) (hw _ kw_2_16) (fun _ h9 => h9) rfl dX6_read_22 ?_
      refine lv_if_ne (tgt := 34) hx hb dX6_read_25 (by decide) (fun c_25 => ?_) (fun c_25 => ?_)
      · refine lv_aload_n hx hb dX6_read_34 rfl (lv_at hl1 1 rfl) ?_
        refine va_get (D := D) (ci := 6) (v := .ref (b 0)) (C := RX6) (T := TX6) (N := 9) hx hb hw iX6 hown hK hP1 0 rfl rfl 4 (by decide) (hw _ kw_2_31) (fun _ h9 => h9) rfl dX6_read_35 ?_
        refine lv_aload_n hx hb dX6_read_38 rfl (lv_at hl1 1 rfl) ?_
        refine va_get (D := D) (ci := 6) (v := .ref (a 0)) (C := RX6) (T := TX6) (N := 9) hx hb hw iX6 hown hK hP1 0 rfl rfl 0 (by decide) (hw _ kw_2_27) (fun _ h9 => h9) rfl dX6_read_39 ?_
        refine cV_v (wc := aS cy b P F N B O Sd Dv L rc re fr lo sm ++ (pS cy a S)) (wr := [sO cy hh a kk dd b w ee qq ik, ia cy (hh 1) 7 C] ++ (shB cy qq bi si f)) (rest := []) hx hb hml hown hw hG hK hP1 hD1 hS1 hA hl1 kc_X0_settle kw_3_52 [.ref (a 0)] (c_X0_settle l D cy G H1.size b P F N B O Sd Dv L rc re fr lo sm a S (by first | omega | assumption)) [12, 13, 14, 15, 16, 17, 18, 19, 20, 21, 22, 23, 24, 25, 26, 1, 2, 3, 4, 5, 6, 7, 8, 9, 10] [0, 11, 27, 28, 29, 30, 31, 32, 33, 34, 35] rfl rfl rfl rfl rfl 0 rfl rfl rfl rfl rfl (Nat.le_of_ble_eq_true rfl) ⟨Nat.le_of_ble_eq_true rfl, Nat.le_of_ble_eq_true rfl⟩ dX6_read_42 ⟨Nat.le_of_ble_eq_true rfl, Nat.le_of_ble_eq_true rfl⟩ (fun u9 H2 locs2 hu9 hP2 hD2 hS2 => ?_)
        clear hP1 hD1 hS1 locs1 H1
        obtain ⟨F1_42, N1_42, B1_42, O1_42, Sd1_42, Dv1_42, L1_42⟩ := u9
        have hF_42 := hu9
        replace hF_42 : ∀ g, g < gcN S → F1_42 g = flow S (PR S) g := hF_42
        replace hP2 : va_P D vwCl ([sO cy hh a kk dd b w ee qq ik, ia cy (hh 1) 7 C] ++ (shB cy qq bi si f ++ (aS cy b (PR S) F1_42 N1_42 B1_42 O1_42 Sd1_42 Dv1_42 L1_42 (nI (RC S)) (b2i (RC S = 60)) (fresh S) (lost S) (b2i (smokes S = true)) ++ (pS cy a S)))) H2 := hP2
        replace hD2 : va_D (va_A _ sz) ([sO cy hh a kk dd b w ee qq ik, ia cy (hh 1) 7 C] ++ (shB cy qq bi si f ++ (aS cy b (PR S) F1_42 N1_42 B1_42 O1_42 Sd1_42 Dv1_42 L1_42 (nI (RC S)) (b2i (RC S = 60)) (fresh S) (lost S) (b2i (smokes S = true)) ++ (pS cy a S)))) := hD2
        replace hP2 := hP2.sub (ws' := [sO cy hh a kk dd b w ee qq ik] ++ (pS cy a S ++ ([ia cy (hh 1) 7 C] ++ (aS cy b (PR S) F1_42 N1_42 B1_42 O1_42 Sd1_42 Dv1_42 L1_42 (nI (RC S)) (b2i (RC S = 60)) (fresh S) (lost S) (b2i (smokes S = true)) ++ (shB cy qq bi si f))))) [0, 26, 27, 28, 29, 30, 31, 32, 33, 34, 35, 1, 11, 12, 13, 14, 15, 16, 17, 18, 19, 20, 21, 22, 23, 24, 25, 2, 3, 4, 5, 6, 7, 8, 9, 10] rfl
        replace hD2 := hD2.sub (ws' := [sO cy hh a kk dd b w ee qq ik] ++ (pS cy a S ++ ([ia cy (hh 1) 7 C] ++ (aS cy b (PR S) F1_42 N1_42 B1_42 O1_42 Sd1_42 Dv1_42 L1_42 (nI (RC S)) (b2i (RC S = 60)) (fresh S) (lost S) (b2i (smokes S = true)) ++ (shB cy qq bi si f))))) [0, 26, 27, 28, 29, 30, 31, 32, 33, 34, 35, 1, 11, 12, 13, 14, 15, 16, 17, 18, 19, 20, 21, 22, 23, 24, 25, 2, 3, 4, 5, 6, 7, 8, 9, 10] (by decide) rfl
        refine lv_iconst (v := 0) hx hb dX6_read_45 (by decide) ?_
        refine lv_istore_n (lv' := [(3, .int 0), (2, .ref (qq 1)), (0, .ref (hh 0)), (1, .int 0)]) hx hb dX6_read_46 rfl hl1 (by decide) rfl (fun ls2 hl2 => ?_)
        clear hl1 ls1
        refine wlp (ι := Nat) (nL := 4) (fun x9 => (x9 ≤ bstN (si 0)) ∧ (∀ g, g < x9 → okR S (f 0) g = true)) (fun x9 => [sO cy hh a kk dd b w ee qq ik] ++ (pS cy a S ++ ([ia cy (hh 1) 7 C] ++ (aS cy b (PR S) F1_42 N1_42 B1_42 O1_42 Sd1_42 Dv1_42 L1_42 (nI (RC S)) (b2i (RC S = 60)) (fresh S) (lost S) (b2i (smokes S = true)) ++ (shB cy qq bi si f))))) (fun x9 => [(3, .int (nI x9)), (2, .ref (qq 1)), (0, .ref (hh 0)), (1, .int 0)]) (fun x9 => []) (fun x9 => bstN (si 0) - x9) 47 ?_ 0 (⟨by first | omega | assumption | rfl | simp_all, fun g hg => absurd hg (Nat.not_lt_zero g)⟩) rfl hP2 hD2 hS2 (lv_sub hl2 [0, 1, 2, 3] rfl)
        clear hP2 hD2 hS2 locs2 H2 hl2 ls2
        intro x9 hI ih_47 H3 locs3 ls3 hP3 hD3 hS3 hl3
        obtain ⟨i, rfl⟩ : ∃ z9, z9 = x9 := ⟨_, rfl⟩
        obtain ⟨hi, hok⟩ := hI
        replace hi : i ≤ bstN (si 0) := hi
        replace hok : ∀ g, g < i → okR S (f 0) g = true := hok
        replace hP3 : va_P D vwCl ([sO cy hh a kk dd b w ee qq ik] ++ (pS cy a S ++ ([ia cy (hh 1) 7 C] ++ (aS cy b (PR S) F1_42 N1_42 B1_42 O1_42 Sd1_42 Dv1_42 L1_42 (nI (RC S)) (b2i (RC S = 60)) (fresh S) (lost S) (b2i (smokes S = true)) ++ (shB cy qq bi si f))))) H3 := hP3
        replace hD3 : va_D (va_A _ sz) ([sO cy hh a kk dd b w ee qq ik] ++ (pS cy a S ++ ([ia cy (hh 1) 7 C] ++ (aS cy b (PR S) F1_42 N1_42 B1_42 O1_42 Sd1_42 Dv1_42 L1_42 (nI (RC S)) (b2i (RC S = 60)) (fresh S) (lost S) (b2i (smokes S = true)) ++ (shB cy qq bi si f))))) := hD3
        replace hl3 : lv_has ls3 4 [(3, .int (nI i)), (2, .ref (qq 1)), (0, .ref (hh 0)), (1, .int 0)] := hl3
        show W p l e _ s m _ below meth c _ _ _ _ _ (F0 m 47 ls3 [])
        refine lv_iload_n hx hb dX6_read_47 rfl (lv_at hl3 0 rfl) ?_
        refine lv_aload_n hx hb dX6_read_48 rfl (lv_at hl3 1 rfl) ?_
        refine va_get (D := D) (ci := 2) (v := .int (si 0)) (C := RX2) (T := TX2) (N := 3) hx hb hw iX2 hown hK hP3 28 rfl rfl 2 (by decide) (hw _ kw_2_18) (fun _ h9 => h9) rfl dX6_read_49 ?_
        refine tp (show (si 0) = nI (bstN (si 0)) from (hso 0 (by decide)).1) ?_
        refine ln_ge (tgt := 99) i (bstN (si 0)) rfl rfl (by omega) (by omega) hx hb dX6_read_52 (by decide) (fun c_52 => ?_) (fun c_52 => ?_)
        · refine lv_iconst (v := 0) hx hb dX6_read_99 (by decide) ?_
          have hcd : cSh bi 0 = 7 := by unfold cSh; clear hx hb hml hown hr hlocks hw hsz hA hG hK hP3 hD3 hS3 hl3 ih_47; grind
          have hq9 : ([sO cy hh a kk dd b w ee qq ik] ++ (pS cy a S ++ ([ia cy (hh 1) 7 C] ++ (aS cy b (PR S) F1_42 N1_42 B1_42 O1_42 Sd1_42 Dv1_42 L1_42 (nI (RC S)) (b2i (RC S = 60)) (fresh S) (lost S) (b2i (smokes S = true)) ++ (shB cy qq bi si f))))) = ([sO cy hh a kk dd b w ee qq ik] ++ (pS cy a S ++ ([ia cy (hh 1) 7 (fnd C (cSh bi 0))] ++ (aS cy b (PR S) F1_42 N1_42 B1_42 O1_42 Sd1_42 Dv1_42 L1_42 (nI (RC S)) (b2i (RC S = 60)) (fresh S) (lost S) (b2i (smokes S = true)) ++ (shB cy qq bi si f))))) := congrArg (fun z9 => [sO cy hh a kk dd b w ee qq ik] ++ (pS cy a S ++ ([ia cy (hh 1) 7 z9] ++ (aS cy b (PR S) F1_42 N1_42 B1_42 O1_42 Sd1_42 Dv1_42 L1_42 (nI (RC S)) (b2i (RC S = 60)) (fresh S) (lost S) (b2i (smokes S = true)) ++ (shB cy qq bi si f))))) (show C = (fnd C (cSh bi 0)) from fnd_o hcd)
          replace hP3 := (congrArg (fun z9 => va_P D vwCl z9 _) hq9).mp hP3
          replace hD3 := (congrArg (fun z9 => va_D _ z9) hq9).mp hD3
          clear hq9
          refine re_i (PR S, F1_42, N1_42, B1_42, O1_42, Sd1_42, Dv1_42, L1_42, nI (RC S), b2i (RC S = 60), fresh S, lost S, b2i (smokes S = true)) hx hb hr hlocks hP3 hD3 hS3 dX6_read_100 ?_
          exact (ans_o hcd (by simp only [hb0, hb1, hb2, hb3]; obtain rfl : i = bstN (si 0) := (by omega); exact vRead_no hok))
        · refine lv_iload_n hx hb dX6_read_55 rfl (lv_at hl3 0 rfl) ?_
          refine lv_aload_n hx hb dX6_read_56 rfl (lv_at hl3 2 rfl) ?_
          refine va_get (D := D) (ci := 6) (v := .ref (a 0)) (C := RX6) (T := TX6) (N := 9) hx hb hw iX6 hown hK hP3 0 rfl rfl 0 (by decide) (hw _ kw_2_27) (fun _ h9 => h9) rfl dX6_read_57 ?_
          refine va_get (D := D) (ci := 1) (v := .int (S 1)) (C := RX1) (T := TX1) (N := 12) hx hb hw iX1 hown hK hP3 1 rfl rfl 1 (by decide) (hw _ kw_1_35) (fun _ h9 => h9) rfl dX6_read_60 ?_
          refine tp (show (S 1) = nI (gcN S) from wf_g wf) ?_
          refine ln_ge (tgt := 89) i (gcN S) rfl rfl (by omega) (by omega) hx hb dX6_read_63 (by decide) (fun c_63 => ?_) (fun c_63 => ?_)
          · refine lv_iconst (v := 1) hx hb dX6_read_89 (by decide) ?_
            refine lv_iload_n hx hb dX6_read_90 rfl (lv_at hl3 0 rfl) ?_
            refine lv_iadd hx hb dX6_read_91 ?_
            refine tp (show (1 + (nI i)) = nI (1 + i) from nI_add _ _) ?_
            refine tp (show (nI (1 + i)) = nI (i + 1) from congrArg nI (Nat.add_comm 1 i)) ?_
            have hcd : cSh bi 0 = 7 := by unfold cSh; clear hx hb hml hown hr hlocks hw hsz hA hG hK hP3 hD3 hS3 hl3 ih_47; grind
            have hq9 : ([sO cy hh a kk dd b w ee qq ik] ++ (pS cy a S ++ ([ia cy (hh 1) 7 C] ++ (aS cy b (PR S) F1_42 N1_42 B1_42 O1_42 Sd1_42 Dv1_42 L1_42 (nI (RC S)) (b2i (RC S = 60)) (fresh S) (lost S) (b2i (smokes S = true)) ++ (shB cy qq bi si f))))) = ([sO cy hh a kk dd b w ee qq ik] ++ (pS cy a S ++ ([ia cy (hh 1) 7 (fnd C (cSh bi 0))] ++ (aS cy b (PR S) F1_42 N1_42 B1_42 O1_42 Sd1_42 Dv1_42 L1_42 (nI (RC S)) (b2i (RC S = 60)) (fresh S) (lost S) (b2i (smokes S = true)) ++ (shB cy qq bi si f))))) := congrArg (fun z9 => [sO cy hh a kk dd b w ee qq ik] ++ (pS cy a S ++ ([ia cy (hh 1) 7 z9] ++ (aS cy b (PR S) F1_42 N1_42 B1_42 O1_42 Sd1_42 Dv1_42 L1_42 (nI (RC S)) (b2i (RC S = 60)) (fresh S) (lost S) (b2i (smokes S = true)) ++ (shB cy qq bi si f))))) (show C = (fnd C (cSh bi 0)) from fnd_o hcd)
            replace hP3 := (congrArg (fun z9 => va_P D vwCl z9 _) hq9).mp hP3
            replace hD3 := (congrArg (fun z9 => va_D _ z9) hq9).mp hD3
            clear hq9
            refine re_i (PR S, F1_42, N1_42, B1_42, O1_42, Sd1_42, Dv1_42, L1_42, nI (RC S), b2i (RC S = 60), fresh S, lost S, b2i (smokes S = true)) hx hb hr hlocks hP3 hD3 hS3 dX6_read_92 ?_
            exact (ans_o hcd (by simp only [hb0, hb1, hb2, hb3]; exact vRead_at (by omega) hok (decide_eq_false (fun z9 => absurd z9.1 (by omega)))))
          · refine lv_aload_n hx hb dX6_read_66 rfl (lv_at hl3 1 rfl) ?_
            refine va_get (D := D) (ci := 2) (v := .ref (qq 5)) (C := RX2) (T := TX2) (N := 3) hx hb hw iX2 hown hK hP3 28 rfl rfl 0 (by decide) (hw _ kw_2_14) (fun _ h9 => h9) rfl dX6_read_67 ?_
            refine lv_iload_n hx hb dX6_read_70 rfl (lv_at hl3 0 rfl) ?_
            refine ald_l (f := f 0) hx hb hK hP3 32 1 rfl rfl i rfl (by first | omega | assumption) (by decide) dX6_read_71 ?_
            refine lv_aload_n hx hb dX6_read_72 rfl (lv_at hl3 2 rfl) ?_
            refine va_get (D := D) (ci := 6) (v := .ref (b 0)) (C := RX6) (T := TX6) (N := 9) hx hb hw iX6 hown hK hP3 0 rfl rfl 4 (by decide) (hw _ kw_2_31) (fun _ h9 => h9) rfl dX6_read_73 ?_
            refine va_get (D := D) (ci := 0) (v := .ref (b 2)) (C := RX0) (T := TX0) (N := 13) hx hb hw iX0 hown hK hP3 12 rfl rfl 1 (by decide) (hw _ kw_1_106) (fun _ h9 => h9) rfl dX6_read_76 ?_
            refine lv_iload_n hx hb dX6_read_79 rfl (lv_at hl3 0 rfl) ?_
            refine ald_i (f := F1_42) hx hb hK hP3 14 0 rfl rfl i rfl (by first | omega | assumption) (by decide) dX6_read_80 ?_
            refine tp (show (F1_42 i) = flow S (PR S) i from hF_42 i c_63) ?_
            refine rT_i (wc := []) (rest := [.long (f 0 i)]) hx hb hml hown hw hG hK hP3 hS3 hA hl3 kc_X6_leanOf kw_3_92 [.int (flow S (PR S) i)] (c_X6_leanOf l D cy G H3.size (flow S (PR S) i)) [] rfl rfl rfl (Nat.le_of_ble_eq_true rfl) ⟨Nat.le_of_ble_eq_true rfl, Nat.le_of_ble_eq_true rfl⟩ dX6_read_81 ⟨Nat.le_of_ble_eq_true rfl, Nat.le_of_ble_eq_true rfl⟩ (fun r_81 H4 locs4 hr_81 hP4 hS4 => ?_)
            have hD4 := hD3
            clear hP3 hD3 hS3 locs3 H3
            subst hr_81
            refine lv_i2l hx hb dX6_read_84 rfl ?_
            refine W.lcmp hx hb dX6_read_85 ?_
            refine lv_if_eq (tgt := 93) hx hb dX6_read_86 (by decide) (fun c_86 => ?_) (fun c_86 => ?_)
            · refine lv_iinc (v := nI (i + 1)) (lv' := [(3, .int (nI (i + 1))), (2, .ref (qq 1)), (0, .ref (hh 0)), (1, .int 0)]) hx hb dX6_read_93 hl3 (k := 0) rfl (nI_inc _) (by decide) rfl (fun ls4 hl4 => ?_)
              clear hl3 ls3
              refine lv_goto (tgt := 47) hx hb dX6_read_96 (by decide) ?_
              exact ih_47 (i + 1) (⟨by first | omega | assumption | rfl | simp_all, fun g hg => by
                  by_cases e9 : g = i
                  · subst e9; exact decide_eq_true ⟨c_63, lg_eq.mp c_86⟩
                  · exact hok g (by omega)⟩) (by (try dsimp only); omega) H4 locs4 ls4 hP4 hD4 hS4 (lv_sub hl4 [0, 1, 2, 3] rfl)
            · refine lv_iconst (v := 1) hx hb dX6_read_89 (by decide) ?_
              refine lv_iload_n hx hb dX6_read_90 rfl (lv_at hl3 0 rfl) ?_
              refine lv_iadd hx hb dX6_read_91 ?_
              refine tp (show (1 + (nI i)) = nI (1 + i) from nI_add _ _) ?_
              refine tp (show (nI (1 + i)) = nI (i + 1) from congrArg nI (Nat.add_comm 1 i)) ?_
              have hcd : cSh bi 0 = 7 := by unfold cSh; clear hx hb hml hown hr hlocks hw hsz hA hG hK hP4 hD4 hS4 hl3 ih_47; grind
              have hq9 : ([sO cy hh a kk dd b w ee qq ik] ++ (pS cy a S ++ ([ia cy (hh 1) 7 C] ++ (aS cy b (PR S) F1_42 N1_42 B1_42 O1_42 Sd1_42 Dv1_42 L1_42 (nI (RC S)) (b2i (RC S = 60)) (fresh S) (lost S) (b2i (smokes S = true)) ++ (shB cy qq bi si f))))) = ([sO cy hh a kk dd b w ee qq ik] ++ (pS cy a S ++ ([ia cy (hh 1) 7 (fnd C (cSh bi 0))] ++ (aS cy b (PR S) F1_42 N1_42 B1_42 O1_42 Sd1_42 Dv1_42 L1_42 (nI (RC S)) (b2i (RC S = 60)) (fresh S) (lost S) (b2i (smokes S = true)) ++ (shB cy qq bi si f))))) := congrArg (fun z9 => [sO cy hh a kk dd b w ee qq ik] ++ (pS cy a S ++ ([ia cy (hh 1) 7 z9] ++ (aS cy b (PR S) F1_42 N1_42 B1_42 O1_42 Sd1_42 Dv1_42 L1_42 (nI (RC S)) (b2i (RC S = 60)) (fresh S) (lost S) (b2i (smokes S = true)) ++ (shB cy qq bi si f))))) (show C = (fnd C (cSh bi 0)) from fnd_o hcd)
              replace hP4 := (congrArg (fun z9 => va_P D vwCl z9 _) hq9).mp hP4
              replace hD4 := (congrArg (fun z9 => va_D _ z9) hq9).mp hD4
              clear hq9
              refine re_i (PR S, F1_42, N1_42, B1_42, O1_42, Sd1_42, Dv1_42, L1_42, nI (RC S), b2i (RC S = 60), fresh S, lost S, b2i (smokes S = true)) hx hb hr hlocks hP4 hD4 hS4 dX6_read_92 ?_
              exact (ans_o hcd (by simp only [hb0, hb1, hb2, hb3]; exact vRead_at (by omega) hok (decide_eq_false (fun z9 => c_86 (lg_eq.mpr z9.2)))))
      · refine lv_aload_n hx hb dX6_read_28 rfl (lv_at hl1 1 rfl) ?_
        refine lv_iconst (v := 5) hx hb dX6_read_29 (by decide) ?_
        refine cV_i (wc := [sO cy hh a kk dd b w ee qq ik, ia cy (hh 1) 7 C]) (wr := pS cy a S ++ (aS cy b P F N B O Sd Dv L rc re fr lo sm ++ (shB cy qq bi si f))) (rest := []) hx hb hml hown hw hG hK hP1 hD1 hS1 hA hl1 kc_X6_find kw_2_59 [.int 5] (c_X6_find l D cy G H1.size hh a kk dd b w ee qq ik C 5 (by first | omega | assumption)) [0, 11] [1, 2, 3, 4, 5, 6, 7, 8, 9, 10, 12, 13, 14, 15, 16, 17, 18, 19, 20, 21, 22, 23, 24, 25, 26, 27, 28, 29, 30, 31, 32, 33, 34, 35] rfl rfl rfl rfl rfl 0 rfl rfl rfl rfl rfl (Nat.le_of_ble_eq_true rfl) ⟨Nat.le_of_ble_eq_true rfl, Nat.le_of_ble_eq_true rfl⟩ dX6_read_30 ⟨Nat.le_of_ble_eq_true rfl, Nat.le_of_ble_eq_true rfl⟩ (fun r_30 u9 H2 locs2 hu9 hP2 hD2 hS2 => ?_)
        clear hP1 hD1 hS1 locs1 H1
        have hr_30 := hu9
        replace hP2 : va_P D vwCl (pS cy a S ++ (aS cy b P F N B O Sd Dv L rc re fr lo sm ++ (shB cy qq bi si f ++ ([sO cy hh a kk dd b w ee qq ik, ia cy (hh 1) 7 (upd C 5 (C 5 + 1))])))) H2 := hP2
        replace hD2 : va_D (va_A _ sz) (pS cy a S ++ (aS cy b P F N B O Sd Dv L rc re fr lo sm ++ (shB cy qq bi si f ++ ([sO cy hh a kk dd b w ee qq ik, ia cy (hh 1) 7 (upd C 5 (C 5 + 1))])))) := hD2
        replace hP2 := hP2.sub (ws' := [sO cy hh a kk dd b w ee qq ik] ++ (pS cy a S ++ ([ia cy (hh 1) 7 (upd C 5 (C 5 + 1))] ++ (aS cy b P F N B O Sd Dv L rc re fr lo sm ++ (shB cy qq bi si f))))) [34, 0, 1, 2, 3, 4, 5, 6, 7, 8, 9, 35, 10, 11, 12, 13, 14, 15, 16, 17, 18, 19, 20, 21, 22, 23, 24, 25, 26, 27, 28, 29, 30, 31, 32, 33] rfl
        replace hD2 := hD2.sub (ws' := [sO cy hh a kk dd b w ee qq ik] ++ (pS cy a S ++ ([ia cy (hh 1) 7 (upd C 5 (C 5 + 1))] ++ (aS cy b P F N B O Sd Dv L rc re fr lo sm ++ (shB cy qq bi si f))))) [34, 0, 1, 2, 3, 4, 5, 6, 7, 8, 9, 35, 10, 11, 12, 13, 14, 15, 16, 17, 18, 19, 20, 21, 22, 23, 24, 25, 26, 27, 28, 29, 30, 31, 32, 33] (by decide) rfl
        subst hr_30
        have hcd : cSh bi 0 = 5 := by unfold cSh; clear hx hb hml hown hr hlocks hw hsz hA hG hK hP2 hD2 hS2 hl1; grind
        have hq9 : ([sO cy hh a kk dd b w ee qq ik] ++ (pS cy a S ++ ([ia cy (hh 1) 7 (upd C 5 (C 5 + 1))] ++ (aS cy b P F N B O Sd Dv L rc re fr lo sm ++ (shB cy qq bi si f))))) = ([sO cy hh a kk dd b w ee qq ik] ++ (pS cy a S ++ ([ia cy (hh 1) 7 (fnd C (cSh bi 0))] ++ (aS cy b P F N B O Sd Dv L rc re fr lo sm ++ (shB cy qq bi si f))))) := congrArg (fun z9 => [sO cy hh a kk dd b w ee qq ik] ++ (pS cy a S ++ ([ia cy (hh 1) 7 z9] ++ (aS cy b P F N B O Sd Dv L rc re fr lo sm ++ (shB cy qq bi si f))))) (show (upd C 5 (C 5 + 1)) = (fnd C (cSh bi 0)) from fnd_f hcd (by decide))
        replace hP2 := (congrArg (fun z9 => va_P D vwCl z9 _) hq9).mp hP2
        replace hD2 := (congrArg (fun z9 => va_D _ z9) hq9).mp hD2
        clear hq9
        refine re_i (P, F, N, B, O, Sd, Dv, L, rc, re, fr, lo, sm) hx hb hr hlocks hP2 hD2 hS2 dX6_read_33 ?_
        exact (ans_f hcd (by decide) rfl)
    · refine lv_aload_n hx hb dX6_read_14 rfl (lv_at hl0 0 rfl) ?_
      refine va_get (D := D) (ci := 6) (v := .ref (qq 0)) (C := RX6) (T := TX6) (N := 9) hx hb hw iX6 hown hK hP1 0 rfl rfl 7 (by decide) (hw _ kw_2_34) (fun _ h9 => h9) rfl dX6_read_15 ?_
      refine lv_iload_n hx hb dX6_read_18 rfl (lv_at hl0 1 rfl) ?_
      refine ald_q hx hb hK hP1 27 3 rfl rfl rfl 1 rfl (by first | omega | assumption) (by decide) (rfl) dX6_read_19 ?_
      refine lv_astore_n (lv' := [(2, .ref (qq 2)), (0, .ref (hh 0)), (1, .int 1)]) hx hb dX6_read_20 rfl hl0 (by decide) rfl (fun ls1 hl1 => ?_)
      clear hl0 ls0
      refine lv_aload_n hx hb dX6_read_21 rfl (lv_at hl1 0 rfl) ?_
      refine va_get (D := D) (ci := 2) (v := .int (bi 1)) (C := RX2) (T := TX2) (N := 3) hx hb hw iX2 hown hK hP1 29 rfl rfl 1 (by decide) (hw _ kw_2_16) (fun _ h9 => h9) rfl dX6_read_22 ?_
      refine lv_if_ne (tgt := 34) hx hb dX6_read_25 (by decide) (fun c_25 => ?_) (fun c_25 => ?_)
      · refine lv_aload_n hx hb dX6_read_34 rfl (lv_at hl1 1 rfl) ?_
        refine va_get (D := D) (ci := 6) (v := .ref (b 0)) (C := RX6) (T := TX6) (N := 9) hx hb hw iX6 hown hK hP1 0 rfl rfl 4 (by decide) (hw _ kw_2_31) (fun _ h9 => h9) rfl dX6_read_35 ?_
        refine lv_aload_n hx hb dX6_read_38 rfl (lv_at hl1 1 rfl) ?_
        refine va_get (D := D) (ci := 6) (v := .ref (a 0)) (C := RX6) (T := TX6) (N := 9) hx hb hw iX6 hown hK hP1 0 rfl rfl 0 (by decide) (hw _ kw_2_27) (fun _ h9 => h9) rfl dX6_read_39 ?_
        refine cV_v (wc := aS cy b P F N B O Sd Dv L rc re fr lo sm ++ (pS cy a S)) (wr := [sO cy hh a kk dd b w ee qq ik, ia cy (hh 1) 7 C] ++ (shB cy qq bi si f)) (rest := []) hx hb hml hown hw hG hK hP1 hD1 hS1 hA hl1 kc_X0_settle kw_3_52 [.ref (a 0)] (c_X0_settle l D cy G H1.size b P F N B O Sd Dv L rc re fr lo sm a S (by first | omega | assumption)) [12, 13, 14, 15, 16, 17, 18, 19, 20, 21, 22, 23, 24, 25, 26, 1, 2, 3, 4, 5, 6, 7, 8, 9, 10] [0, 11, 27, 28, 29, 30, 31, 32, 33, 34, 35] rfl rfl rfl rfl rfl 0 rfl rfl rfl rfl rfl (Nat.le_of_ble_eq_true rfl) ⟨Nat.le_of_ble_eq_true rfl, Nat.le_of_ble_eq_true rfl⟩ dX6_read_42 ⟨Nat.le_of_ble_eq_true rfl, Nat.le_of_ble_eq_true rfl⟩ (fun u9 H2 locs2 hu9 hP2 hD2 hS2 => ?_)
        clear hP1 hD1 hS1 locs1 H1
        obtain ⟨F1_42, N1_42, B1_42, O1_42, Sd1_42, Dv1_42, L1_42⟩ := u9
        have hF_42 := hu9
        replace hF_42 : ∀ g, g < gcN S → F1_42 g = flow S (PR S) g := hF_42
        replace hP2 : va_P D vwCl ([sO cy hh a kk dd b w ee qq ik, ia cy (hh 1) 7 C] ++ (shB cy qq bi si f ++ (aS cy b (PR S) F1_42 N1_42 B1_42 O1_42 Sd1_42 Dv1_42 L1_42 (nI (RC S)) (b2i (RC S = 60)) (fresh S) (lost S) (b2i (smokes S = true)) ++ (pS cy a S)))) H2 := hP2
        replace hD2 : va_D (va_A _ sz) ([sO cy hh a kk dd b w ee qq ik, ia cy (hh 1) 7 C] ++ (shB cy qq bi si f ++ (aS cy b (PR S) F1_42 N1_42 B1_42 O1_42 Sd1_42 Dv1_42 L1_42 (nI (RC S)) (b2i (RC S = 60)) (fresh S) (lost S) (b2i (smokes S = true)) ++ (pS cy a S)))) := hD2
        replace hP2 := hP2.sub (ws' := [sO cy hh a kk dd b w ee qq ik] ++ (pS cy a S ++ ([ia cy (hh 1) 7 C] ++ (aS cy b (PR S) F1_42 N1_42 B1_42 O1_42 Sd1_42 Dv1_42 L1_42 (nI (RC S)) (b2i (RC S = 60)) (fresh S) (lost S) (b2i (smokes S = true)) ++ (shB cy qq bi si f))))) [0, 26, 27, 28, 29, 30, 31, 32, 33, 34, 35, 1, 11, 12, 13, 14, 15, 16, 17, 18, 19, 20, 21, 22, 23, 24, 25, 2, 3, 4, 5, 6, 7, 8, 9, 10] rfl
        replace hD2 := hD2.sub (ws' := [sO cy hh a kk dd b w ee qq ik] ++ (pS cy a S ++ ([ia cy (hh 1) 7 C] ++ (aS cy b (PR S) F1_42 N1_42 B1_42 O1_42 Sd1_42 Dv1_42 L1_42 (nI (RC S)) (b2i (RC S = 60)) (fresh S) (lost S) (b2i (smokes S = true)) ++ (shB cy qq bi si f))))) [0, 26, 27, 28, 29, 30, 31, 32, 33, 34, 35, 1, 11, 12, 13, 14, 15, 16, 17, 18, 19, 20, 21, 22, 23, 24, 25, 2, 3, 4, 5, 6, 7, 8, 9, 10] (by decide) rfl
        refine lv_iconst (v := 0) hx hb dX6_read_45 (by decide) ?_
        refine lv_istore_n (lv' := [(3, .int 0), (2, .ref (qq 2)), (0, .ref (hh 0)), (1, .int 1)]) hx hb dX6_read_46 rfl hl1 (by decide) rfl (fun ls2 hl2 => ?_)
        clear hl1 ls1
        refine wlp (ι := Nat) (nL := 4) (fun x9 => (x9 ≤ bstN (si 1)) ∧ (∀ g, g < x9 → okR S (f 1) g = true)) (fun x9 => [sO cy hh a kk dd b w ee qq ik] ++ (pS cy a S ++ ([ia cy (hh 1) 7 C] ++ (aS cy b (PR S) F1_42 N1_42 B1_42 O1_42 Sd1_42 Dv1_42 L1_42 (nI (RC S)) (b2i (RC S = 60)) (fresh S) (lost S) (b2i (smokes S = true)) ++ (shB cy qq bi si f))))) (fun x9 => [(3, .int (nI x9)), (2, .ref (qq 2)), (0, .ref (hh 0)), (1, .int 1)]) (fun x9 => []) (fun x9 => bstN (si 1) - x9) 47 ?_ 0 (⟨by first | omega | assumption | rfl | simp_all, fun g hg => absurd hg (Nat.not_lt_zero g)⟩) rfl hP2 hD2 hS2 (lv_sub hl2 [0, 1, 2, 3] rfl)
        clear hP2 hD2 hS2 locs2 H2 hl2 ls2
        intro x9 hI ih_47 H3 locs3 ls3 hP3 hD3 hS3 hl3
        obtain ⟨i, rfl⟩ : ∃ z9, z9 = x9 := ⟨_, rfl⟩
        obtain ⟨hi, hok⟩ := hI
        replace hi : i ≤ bstN (si 1) := hi
        replace hok : ∀ g, g < i → okR S (f 1) g = true := hok
        replace hP3 : va_P D vwCl ([sO cy hh a kk dd b w ee qq ik] ++ (pS cy a S ++ ([ia cy (hh 1) 7 C] ++ (aS cy b (PR S) F1_42 N1_42 B1_42 O1_42 Sd1_42 Dv1_42 L1_42 (nI (RC S)) (b2i (RC S = 60)) (fresh S) (lost S) (b2i (smokes S = true)) ++ (shB cy qq bi si f))))) H3 := hP3
        replace hD3 : va_D (va_A _ sz) ([sO cy hh a kk dd b w ee qq ik] ++ (pS cy a S ++ ([ia cy (hh 1) 7 C] ++ (aS cy b (PR S) F1_42 N1_42 B1_42 O1_42 Sd1_42 Dv1_42 L1_42 (nI (RC S)) (b2i (RC S = 60)) (fresh S) (lost S) (b2i (smokes S = true)) ++ (shB cy qq bi si f))))) := hD3
        replace hl3 : lv_has ls3 4 [(3, .int (nI i)), (2, .ref (qq 2)), (0, .ref (hh 0)), (1, .int 1)] := hl3
        show W p l e _ s m _ below meth c _ _ _ _ _ (F0 m 47 ls3 [])
        refine lv_iload_n hx hb dX6_read_47 rfl (lv_at hl3 0 rfl) ?_
        refine lv_aload_n hx hb dX6_read_48 rfl (lv_at hl3 1 rfl) ?_
        refine va_get (D := D) (ci := 2) (v := .int (si 1)) (C := RX2) (T := TX2) (N := 3) hx hb hw iX2 hown hK hP3 29 rfl rfl 2 (by decide) (hw _ kw_2_18) (fun _ h9 => h9) rfl dX6_read_49 ?_
        refine tp (show (si 1) = nI (bstN (si 1)) from (hso 1 (by decide)).1) ?_
        refine ln_ge (tgt := 99) i (bstN (si 1)) rfl rfl (by omega) (by omega) hx hb dX6_read_52 (by decide) (fun c_52 => ?_) (fun c_52 => ?_)
        · refine lv_iconst (v := 0) hx hb dX6_read_99 (by decide) ?_
          have hcd : cSh bi 1 = 7 := by unfold cSh; clear hx hb hml hown hr hlocks hw hsz hA hG hK hP3 hD3 hS3 hl3 ih_47; grind
          have hq9 : ([sO cy hh a kk dd b w ee qq ik] ++ (pS cy a S ++ ([ia cy (hh 1) 7 C] ++ (aS cy b (PR S) F1_42 N1_42 B1_42 O1_42 Sd1_42 Dv1_42 L1_42 (nI (RC S)) (b2i (RC S = 60)) (fresh S) (lost S) (b2i (smokes S = true)) ++ (shB cy qq bi si f))))) = ([sO cy hh a kk dd b w ee qq ik] ++ (pS cy a S ++ ([ia cy (hh 1) 7 (fnd C (cSh bi 1))] ++ (aS cy b (PR S) F1_42 N1_42 B1_42 O1_42 Sd1_42 Dv1_42 L1_42 (nI (RC S)) (b2i (RC S = 60)) (fresh S) (lost S) (b2i (smokes S = true)) ++ (shB cy qq bi si f))))) := congrArg (fun z9 => [sO cy hh a kk dd b w ee qq ik] ++ (pS cy a S ++ ([ia cy (hh 1) 7 z9] ++ (aS cy b (PR S) F1_42 N1_42 B1_42 O1_42 Sd1_42 Dv1_42 L1_42 (nI (RC S)) (b2i (RC S = 60)) (fresh S) (lost S) (b2i (smokes S = true)) ++ (shB cy qq bi si f))))) (show C = (fnd C (cSh bi 1)) from fnd_o hcd)
          replace hP3 := (congrArg (fun z9 => va_P D vwCl z9 _) hq9).mp hP3
          replace hD3 := (congrArg (fun z9 => va_D _ z9) hq9).mp hD3
          clear hq9
          refine re_i (PR S, F1_42, N1_42, B1_42, O1_42, Sd1_42, Dv1_42, L1_42, nI (RC S), b2i (RC S = 60), fresh S, lost S, b2i (smokes S = true)) hx hb hr hlocks hP3 hD3 hS3 dX6_read_100 ?_
          exact (ans_o hcd (by simp only [hb0, hb1, hb2, hb3]; obtain rfl : i = bstN (si 1) := (by omega); exact vRead_no hok))
        · refine lv_iload_n hx hb dX6_read_55 rfl (lv_at hl3 0 rfl) ?_
          refine lv_aload_n hx hb dX6_read_56 rfl (lv_at hl3 2 rfl) ?_
          refine va_get (D := D) (ci := 6) (v := .ref (a 0)) (C := RX6) (T := TX6) (N := 9) hx hb hw iX6 hown hK hP3 0 rfl rfl 0 (by decide) (hw _ kw_2_27) (fun _ h9 => h9) rfl dX6_read_57 ?_
          refine va_get (D := D) (ci := 1) (v := .int (S 1)) (C := RX1) (T := TX1) (N := 12) hx hb hw iX1 hown hK hP3 1 rfl rfl 1 (by decide) (hw _ kw_1_35) (fun _ h9 => h9) rfl dX6_read_60 ?_
          refine tp (show (S 1) = nI (gcN S) from wf_g wf) ?_
          refine ln_ge (tgt := 89) i (gcN S) rfl rfl (by omega) (by omega) hx hb dX6_read_63 (by decide) (fun c_63 => ?_) (fun c_63 => ?_)
          · refine lv_iconst (v := 1) hx hb dX6_read_89 (by decide) ?_
            refine lv_iload_n hx hb dX6_read_90 rfl (lv_at hl3 0 rfl) ?_
            refine lv_iadd hx hb dX6_read_91 ?_
            refine tp (show (1 + (nI i)) = nI (1 + i) from nI_add _ _) ?_
            refine tp (show (nI (1 + i)) = nI (i + 1) from congrArg nI (Nat.add_comm 1 i)) ?_
            have hcd : cSh bi 1 = 7 := by unfold cSh; clear hx hb hml hown hr hlocks hw hsz hA hG hK hP3 hD3 hS3 hl3 ih_47; grind
            have hq9 : ([sO cy hh a kk dd b w ee qq ik] ++ (pS cy a S ++ ([ia cy (hh 1) 7 C] ++ (aS cy b (PR S) F1_42 N1_42 B1_42 O1_42 Sd1_42 Dv1_42 L1_42 (nI (RC S)) (b2i (RC S = 60)) (fresh S) (lost S) (b2i (smokes S = true)) ++ (shB cy qq bi si f))))) = ([sO cy hh a kk dd b w ee qq ik] ++ (pS cy a S ++ ([ia cy (hh 1) 7 (fnd C (cSh bi 1))] ++ (aS cy b (PR S) F1_42 N1_42 B1_42 O1_42 Sd1_42 Dv1_42 L1_42 (nI (RC S)) (b2i (RC S = 60)) (fresh S) (lost S) (b2i (smokes S = true)) ++ (shB cy qq bi si f))))) := congrArg (fun z9 => [sO cy hh a kk dd b w ee qq ik] ++ (pS cy a S ++ ([ia cy (hh 1) 7 z9] ++ (aS cy b (PR S) F1_42 N1_42 B1_42 O1_42 Sd1_42 Dv1_42 L1_42 (nI (RC S)) (b2i (RC S = 60)) (fresh S) (lost S) (b2i (smokes S = true)) ++ (shB cy qq bi si f))))) (show C = (fnd C (cSh bi 1)) from fnd_o hcd)
            replace hP3 := (congrArg (fun z9 => va_P D vwCl z9 _) hq9).mp hP3
            replace hD3 := (congrArg (fun z9 => va_D _ z9) hq9).mp hD3
            clear hq9
            refine re_i (PR S, F1_42, N1_42, B1_42, O1_42, Sd1_42, Dv1_42, L1_42, nI (RC S), b2i (RC S = 60), fresh S, lost S, b2i (smokes S = true)) hx hb hr hlocks hP3 hD3 hS3 dX6_read_92 ?_
            exact (ans_o hcd (by simp only [hb0, hb1, hb2, hb3]; exact vRead_at (by omega) hok (decide_eq_false (fun z9 => absurd z9.1 (by omega)))))
          · refine lv_aload_n hx hb dX6_read_66 rfl (lv_at hl3 1 rfl) ?_
            refine va_get (D := D) (ci := 2) (v := .ref (qq 6)) (C := RX2) (T := TX2) (N := 3) hx hb hw iX2 hown hK hP3 29 rfl rfl 0 (by decide) (hw _ kw_2_14) (fun _ h9 => h9) rfl dX6_read_67 ?_
            refine lv_iload_n hx hb dX6_read_70 rfl (lv_at hl3 0 rfl) ?_
            refine ald_l (f := f 1) hx hb hK hP3 33 1 rfl rfl i rfl (by first | omega | assumption) (by decide) dX6_read_71 ?_
            refine lv_aload_n hx hb dX6_read_72 rfl (lv_at hl3 2 rfl) ?_
            refine va_get (D := D) (ci := 6) (v := .ref (b 0)) (C := RX6) (T := TX6) (N := 9) hx hb hw iX6 hown hK hP3 0 rfl rfl 4 (by decide) (hw _ kw_2_31) (fun _ h9 => h9) rfl dX6_read_73 ?_
            refine va_get (D := D) (ci := 0) (v := .ref (b 2)) (C := RX0) (T := TX0) (N := 13) hx hb hw iX0 hown hK hP3 12 rfl rfl 1 (by decide) (hw _ kw_1_106) (fun _ h9 => h9) rfl dX6_read_76 ?_
            refine lv_iload_n hx hb dX6_read_79 rfl (lv_at hl3 0 rfl) ?_
            refine ald_i (f := F1_42) hx hb hK hP3 14 0 rfl rfl i rfl (by first | omega | assumption) (by decide) dX6_read_80 ?_
            refine tp (show (F1_42 i) = flow S (PR S) i from hF_42 i c_63) ?_
            refine rT_i (wc := []) (rest := [.long (f 1 i)]) hx hb hml hown hw hG hK hP3 hS3 hA hl3 kc_X6_leanOf kw_3_92 [.int (flow S (PR S) i)] (c_X6_leanOf l D cy G H3.size (flow S (PR S) i)) [] rfl rfl rfl (Nat.le_of_ble_eq_true rfl) ⟨Nat.le_of_ble_eq_true rfl, Nat.le_of_ble_eq_true rfl⟩ dX6_read_81 ⟨Nat.le_of_ble_eq_true rfl, Nat.le_of_ble_eq_true rfl⟩ (fun r_81 H4 locs4 hr_81 hP4 hS4 => ?_)
            have hD4 := hD3
            clear hP3 hD3 hS3 locs3 H3
            subst hr_81
            refine lv_i2l hx hb dX6_read_84 rfl ?_
            refine W.lcmp hx hb dX6_read_85 ?_
            refine lv_if_eq (tgt := 93) hx hb dX6_read_86 (by decide) (fun c_86 => ?_) (fun c_86 => ?_)
            · refine lv_iinc (v := nI (i + 1)) (lv' := [(3, .int (nI (i + 1))), (2, .ref (qq 2)), (0, .ref (hh 0)), (1, .int 1)]) hx hb dX6_read_93 hl3 (k := 0) rfl (nI_inc _) (by decide) rfl (fun ls4 hl4 => ?_)
              clear hl3 ls3
              refine lv_goto (tgt := 47) hx hb dX6_read_96 (by decide) ?_
              exact ih_47 (i + 1) (⟨by first | omega | assumption | rfl | simp_all, fun g hg => by
                  by_cases e9 : g = i
                  · subst e9; exact decide_eq_true ⟨c_63, lg_eq.mp c_86⟩
                  · exact hok g (by omega)⟩) (by (try dsimp only); omega) H4 locs4 ls4 hP4 hD4 hS4 (lv_sub hl4 [0, 1, 2, 3] rfl)
            · refine lv_iconst (v := 1) hx hb dX6_read_89 (by decide) ?_
              refine lv_iload_n hx hb dX6_read_90 rfl (lv_at hl3 0 rfl) ?_
              refine lv_iadd hx hb dX6_read_91 ?_
              refine tp (show (1 + (nI i)) = nI (1 + i) from nI_add _ _) ?_
              refine tp (show (nI (1 + i)) = nI (i + 1) from congrArg nI (Nat.add_comm 1 i)) ?_
              have hcd : cSh bi 1 = 7 := by unfold cSh; clear hx hb hml hown hr hlocks hw hsz hA hG hK hP4 hD4 hS4 hl3 ih_47; grind
              have hq9 : ([sO cy hh a kk dd b w ee qq ik] ++ (pS cy a S ++ ([ia cy (hh 1) 7 C] ++ (aS cy b (PR S) F1_42 N1_42 B1_42 O1_42 Sd1_42 Dv1_42 L1_42 (nI (RC S)) (b2i (RC S = 60)) (fresh S) (lost S) (b2i (smokes S = true)) ++ (shB cy qq bi si f))))) = ([sO cy hh a kk dd b w ee qq ik] ++ (pS cy a S ++ ([ia cy (hh 1) 7 (fnd C (cSh bi 1))] ++ (aS cy b (PR S) F1_42 N1_42 B1_42 O1_42 Sd1_42 Dv1_42 L1_42 (nI (RC S)) (b2i (RC S = 60)) (fresh S) (lost S) (b2i (smokes S = true)) ++ (shB cy qq bi si f))))) := congrArg (fun z9 => [sO cy hh a kk dd b w ee qq ik] ++ (pS cy a S ++ ([ia cy (hh 1) 7 z9] ++ (aS cy b (PR S) F1_42 N1_42 B1_42 O1_42 Sd1_42 Dv1_42 L1_42 (nI (RC S)) (b2i (RC S = 60)) (fresh S) (lost S) (b2i (smokes S = true)) ++ (shB cy qq bi si f))))) (show C = (fnd C (cSh bi 1)) from fnd_o hcd)
              replace hP4 := (congrArg (fun z9 => va_P D vwCl z9 _) hq9).mp hP4
              replace hD4 := (congrArg (fun z9 => va_D _ z9) hq9).mp hD4
              clear hq9
              refine re_i (PR S, F1_42, N1_42, B1_42, O1_42, Sd1_42, Dv1_42, L1_42, nI (RC S), b2i (RC S = 60), fresh S, lost S, b2i (smokes S = true)) hx hb hr hlocks hP4 hD4 hS4 dX6_read_92 ?_
              exact (ans_o hcd (by simp only [hb0, hb1, hb2, hb3]; exact vRead_at (by omega) hok (decide_eq_false (fun z9 => c_86 (lg_eq.mpr z9.2)))))
      · refine lv_aload_n hx hb dX6_read_28 rfl (lv_at hl1 1 rfl) ?_
        refine lv_iconst (v := 5) hx hb dX6_read_29 (by decide) ?_
        refine cV_i (wc := [sO cy hh a kk dd b w ee qq ik, ia cy (hh 1) 7 C]) (wr := pS cy a S ++ (aS cy b P F N B O Sd Dv L rc re fr lo sm ++ (shB cy qq bi si f))) (rest := []) hx hb hml hown hw hG hK hP1 hD1 hS1 hA hl1 kc_X6_find kw_2_59 [.int 5] (c_X6_find l D cy G H1.size hh a kk dd b w ee qq ik C 5 (by first | omega | assumption)) [0, 11] [1, 2, 3, 4, 5, 6, 7, 8, 9, 10, 12, 13, 14, 15, 16, 17, 18, 19, 20, 21, 22, 23, 24, 25, 26, 27, 28, 29, 30, 31, 32, 33, 34, 35] rfl rfl rfl rfl rfl 0 rfl rfl rfl rfl rfl (Nat.le_of_ble_eq_true rfl) ⟨Nat.le_of_ble_eq_true rfl, Nat.le_of_ble_eq_true rfl⟩ dX6_read_30 ⟨Nat.le_of_ble_eq_true rfl, Nat.le_of_ble_eq_true rfl⟩ (fun r_30 u9 H2 locs2 hu9 hP2 hD2 hS2 => ?_)
        clear hP1 hD1 hS1 locs1 H1
        have hr_30 := hu9
        replace hP2 : va_P D vwCl (pS cy a S ++ (aS cy b P F N B O Sd Dv L rc re fr lo sm ++ (shB cy qq bi si f ++ ([sO cy hh a kk dd b w ee qq ik, ia cy (hh 1) 7 (upd C 5 (C 5 + 1))])))) H2 := hP2
        replace hD2 : va_D (va_A _ sz) (pS cy a S ++ (aS cy b P F N B O Sd Dv L rc re fr lo sm ++ (shB cy qq bi si f ++ ([sO cy hh a kk dd b w ee qq ik, ia cy (hh 1) 7 (upd C 5 (C 5 + 1))])))) := hD2
        replace hP2 := hP2.sub (ws' := [sO cy hh a kk dd b w ee qq ik] ++ (pS cy a S ++ ([ia cy (hh 1) 7 (upd C 5 (C 5 + 1))] ++ (aS cy b P F N B O Sd Dv L rc re fr lo sm ++ (shB cy qq bi si f))))) [34, 0, 1, 2, 3, 4, 5, 6, 7, 8, 9, 35, 10, 11, 12, 13, 14, 15, 16, 17, 18, 19, 20, 21, 22, 23, 24, 25, 26, 27, 28, 29, 30, 31, 32, 33] rfl
        replace hD2 := hD2.sub (ws' := [sO cy hh a kk dd b w ee qq ik] ++ (pS cy a S ++ ([ia cy (hh 1) 7 (upd C 5 (C 5 + 1))] ++ (aS cy b P F N B O Sd Dv L rc re fr lo sm ++ (shB cy qq bi si f))))) [34, 0, 1, 2, 3, 4, 5, 6, 7, 8, 9, 35, 10, 11, 12, 13, 14, 15, 16, 17, 18, 19, 20, 21, 22, 23, 24, 25, 26, 27, 28, 29, 30, 31, 32, 33] (by decide) rfl
        subst hr_30
        have hcd : cSh bi 1 = 5 := by unfold cSh; clear hx hb hml hown hr hlocks hw hsz hA hG hK hP2 hD2 hS2 hl1; grind
        have hq9 : ([sO cy hh a kk dd b w ee qq ik] ++ (pS cy a S ++ ([ia cy (hh 1) 7 (upd C 5 (C 5 + 1))] ++ (aS cy b P F N B O Sd Dv L rc re fr lo sm ++ (shB cy qq bi si f))))) = ([sO cy hh a kk dd b w ee qq ik] ++ (pS cy a S ++ ([ia cy (hh 1) 7 (fnd C (cSh bi 1))] ++ (aS cy b P F N B O Sd Dv L rc re fr lo sm ++ (shB cy qq bi si f))))) := congrArg (fun z9 => [sO cy hh a kk dd b w ee qq ik] ++ (pS cy a S ++ ([ia cy (hh 1) 7 z9] ++ (aS cy b P F N B O Sd Dv L rc re fr lo sm ++ (shB cy qq bi si f))))) (show (upd C 5 (C 5 + 1)) = (fnd C (cSh bi 1)) from fnd_f hcd (by decide))
        replace hP2 := (congrArg (fun z9 => va_P D vwCl z9 _) hq9).mp hP2
        replace hD2 := (congrArg (fun z9 => va_D _ z9) hq9).mp hD2
        clear hq9
        refine re_i (P, F, N, B, O, Sd, Dv, L, rc, re, fr, lo, sm) hx hb hr hlocks hP2 hD2 hS2 dX6_read_33 ?_
        exact (ans_f hcd (by decide) rfl)
    · refine lv_aload_n hx hb dX6_read_14 rfl (lv_at hl0 0 rfl) ?_
      refine va_get (D := D) (ci := 6) (v := .ref (qq 0)) (C := RX6) (T := TX6) (N := 9) hx hb hw iX6 hown hK hP1 0 rfl rfl 7 (by decide) (hw _ kw_2_34) (fun _ h9 => h9) rfl dX6_read_15 ?_
      refine lv_iload_n hx hb dX6_read_18 rfl (lv_at hl0 1 rfl) ?_
      refine ald_q hx hb hK hP1 27 3 rfl rfl rfl 2 rfl (by first | omega | assumption) (by decide) (rfl) dX6_read_19 ?_
      refine lv_astore_n (lv' := [(2, .ref (qq 3)), (0, .ref (hh 0)), (1, .int 2)]) hx hb dX6_read_20 rfl hl0 (by decide) rfl (fun ls1 hl1 => ?_)
      clear hl0 ls0
      refine lv_aload_n hx hb dX6_read_21 rfl (lv_at hl1 0 rfl) ?_
      refine va_get (D := D) (ci := 2) (v := .int (bi 2)) (C := RX2) (T := TX2) (N := 3) hx hb hw iX2 hown hK hP1 30 rfl rfl 1 (by decide) (hw _ kw_2_16) (fun _ h9 => h9) rfl dX6_read_22 ?_
      refine lv_if_ne (tgt := 34) hx hb dX6_read_25 (by decide) (fun c_25 => ?_) (fun c_25 => ?_)
      · refine lv_aload_n hx hb dX6_read_34 rfl (lv_at hl1 1 rfl) ?_
        refine va_get (D := D) (ci := 6) (v := .ref (b 0)) (C := RX6) (T := TX6) (N := 9) hx hb hw iX6 hown hK hP1 0 rfl rfl 4 (by decide) (hw _ kw_2_31) (fun _ h9 => h9) rfl dX6_read_35 ?_
        refine lv_aload_n hx hb dX6_read_38 rfl (lv_at hl1 1 rfl) ?_
        refine va_get (D := D) (ci := 6) (v := .ref (a 0)) (C := RX6) (T := TX6) (N := 9) hx hb hw iX6 hown hK hP1 0 rfl rfl 0 (by decide) (hw _ kw_2_27) (fun _ h9 => h9) rfl dX6_read_39 ?_
        refine cV_v (wc := aS cy b P F N B O Sd Dv L rc re fr lo sm ++ (pS cy a S)) (wr := [sO cy hh a kk dd b w ee qq ik, ia cy (hh 1) 7 C] ++ (shB cy qq bi si f)) (rest := []) hx hb hml hown hw hG hK hP1 hD1 hS1 hA hl1 kc_X0_settle kw_3_52 [.ref (a 0)] (c_X0_settle l D cy G H1.size b P F N B O Sd Dv L rc re fr lo sm a S (by first | omega | assumption)) [12, 13, 14, 15, 16, 17, 18, 19, 20, 21, 22, 23, 24, 25, 26, 1, 2, 3, 4, 5, 6, 7, 8, 9, 10] [0, 11, 27, 28, 29, 30, 31, 32, 33, 34, 35] rfl rfl rfl rfl rfl 0 rfl rfl rfl rfl rfl (Nat.le_of_ble_eq_true rfl) ⟨Nat.le_of_ble_eq_true rfl, Nat.le_of_ble_eq_true rfl⟩ dX6_read_42 ⟨Nat.le_of_ble_eq_true rfl, Nat.le_of_ble_eq_true rfl⟩ (fun u9 H2 locs2 hu9 hP2 hD2 hS2 => ?_)
        clear hP1 hD1 hS1 locs1 H1
        obtain ⟨F1_42, N1_42, B1_42, O1_42, Sd1_42, Dv1_42, L1_42⟩ := u9
        have hF_42 := hu9
        replace hF_42 : ∀ g, g < gcN S → F1_42 g = flow S (PR S) g := hF_42
        replace hP2 : va_P D vwCl ([sO cy hh a kk dd b w ee qq ik, ia cy (hh 1) 7 C] ++ (shB cy qq bi si f ++ (aS cy b (PR S) F1_42 N1_42 B1_42 O1_42 Sd1_42 Dv1_42 L1_42 (nI (RC S)) (b2i (RC S = 60)) (fresh S) (lost S) (b2i (smokes S = true)) ++ (pS cy a S)))) H2 := hP2
        replace hD2 : va_D (va_A _ sz) ([sO cy hh a kk dd b w ee qq ik, ia cy (hh 1) 7 C] ++ (shB cy qq bi si f ++ (aS cy b (PR S) F1_42 N1_42 B1_42 O1_42 Sd1_42 Dv1_42 L1_42 (nI (RC S)) (b2i (RC S = 60)) (fresh S) (lost S) (b2i (smokes S = true)) ++ (pS cy a S)))) := hD2
        replace hP2 := hP2.sub (ws' := [sO cy hh a kk dd b w ee qq ik] ++ (pS cy a S ++ ([ia cy (hh 1) 7 C] ++ (aS cy b (PR S) F1_42 N1_42 B1_42 O1_42 Sd1_42 Dv1_42 L1_42 (nI (RC S)) (b2i (RC S = 60)) (fresh S) (lost S) (b2i (smokes S = true)) ++ (shB cy qq bi si f))))) [0, 26, 27, 28, 29, 30, 31, 32, 33, 34, 35, 1, 11, 12, 13, 14, 15, 16, 17, 18, 19, 20, 21, 22, 23, 24, 25, 2, 3, 4, 5, 6, 7, 8, 9, 10] rfl
        replace hD2 := hD2.sub (ws' := [sO cy hh a kk dd b w ee qq ik] ++ (pS cy a S ++ ([ia cy (hh 1) 7 C] ++ (aS cy b (PR S) F1_42 N1_42 B1_42 O1_42 Sd1_42 Dv1_42 L1_42 (nI (RC S)) (b2i (RC S = 60)) (fresh S) (lost S) (b2i (smokes S = true)) ++ (shB cy qq bi si f))))) [0, 26, 27, 28, 29, 30, 31, 32, 33, 34, 35, 1, 11, 12, 13, 14, 15, 16, 17, 18, 19, 20, 21, 22, 23, 24, 25, 2, 3, 4, 5, 6, 7, 8, 9, 10] (by decide) rfl
        refine lv_iconst (v := 0) hx hb dX6_read_45 (by decide) ?_
        refine lv_istore_n (lv' := [(3, .int 0), (2, .ref (qq 3)), (0, .ref (hh 0)), (1, .int 2)]) hx hb dX6_read_46 rfl hl1 (by decide) rfl (fun ls2 hl2 => ?_)
        clear hl1 ls1
        refine wlp (ι := Nat) (nL := 4) (fun x9 => (x9 ≤ bstN (si 2)) ∧ (∀ g, g < x9 → okR S (f 2) g = true)) (fun x9 => [sO cy hh a kk dd b w ee qq ik] ++ (pS cy a S ++ ([ia cy (hh 1) 7 C] ++ (aS cy b (PR S) F1_42 N1_42 B1_42 O1_42 Sd1_42 Dv1_42 L1_42 (nI (RC S)) (b2i (RC S = 60)) (fresh S) (lost S) (b2i (smokes S = true)) ++ (shB cy qq bi si f))))) (fun x9 => [(3, .int (nI x9)), (2, .ref (qq 3)), (0, .ref (hh 0)), (1, .int 2)]) (fun x9 => []) (fun x9 => bstN (si 2) - x9) 47 ?_ 0 (⟨by first | omega | assumption | rfl | simp_all, fun g hg => absurd hg (Nat.not_lt_zero g)⟩) rfl hP2 hD2 hS2 (lv_sub hl2 [0, 1, 2, 3] rfl)
        clear hP2 hD2 hS2 locs2 H2 hl2 ls2
        intro x9 hI ih_47 H3 locs3 ls3 hP3 hD3 hS3 hl3
        obtain ⟨i, rfl⟩ : ∃ z9, z9 = x9 := ⟨_, rfl⟩
        obtain ⟨hi, hok⟩ := hI
        replace hi : i ≤ bstN (si 2) := hi
        replace hok : ∀ g, g < i → okR S (f 2) g = true := hok
        replace hP3 : va_P D vwCl ([sO cy hh a kk dd b w ee qq ik] ++ (pS cy a S ++ ([ia cy (hh 1) 7 C] ++ (aS cy b (PR S) F1_42 N1_42 B1_42 O1_42 Sd1_42 Dv1_42 L1_42 (nI (RC S)) (b2i (RC S = 60)) (fresh S) (lost S) (b2i (smokes S = true)) ++ (shB cy qq bi si f))))) H3 := hP3
        replace hD3 : va_D (va_A _ sz) ([sO cy hh a kk dd b w ee qq ik] ++ (pS cy a S ++ ([ia cy (hh 1) 7 C] ++ (aS cy b (PR S) F1_42 N1_42 B1_42 O1_42 Sd1_42 Dv1_42 L1_42 (nI (RC S)) (b2i (RC S = 60)) (fresh S) (lost S) (b2i (smokes S = true)) ++ (shB cy qq bi si f))))) := hD3
        replace hl3 : lv_has ls3 4 [(3, .int (nI i)), (2, .ref (qq 3)), (0, .ref (hh 0)), (1, .int 2)] := hl3
        show W p l e _ s m _ below meth c _ _ _ _ _ (F0 m 47 ls3 [])
        refine lv_iload_n hx hb dX6_read_47 rfl (lv_at hl3 0 rfl) ?_
        refine lv_aload_n hx hb dX6_read_48 rfl (lv_at hl3 1 rfl) ?_
        refine va_get (D := D) (ci := 2) (v := .int (si 2)) (C := RX2) (T := TX2) (N := 3) hx hb hw iX2 hown hK hP3 30 rfl rfl 2 (by decide) (hw _ kw_2_18) (fun _ h9 => h9) rfl dX6_read_49 ?_
        refine tp (show (si 2) = nI (bstN (si 2)) from (hso 2 (by decide)).1) ?_
        refine ln_ge (tgt := 99) i (bstN (si 2)) rfl rfl (by omega) (by omega) hx hb dX6_read_52 (by decide) (fun c_52 => ?_) (fun c_52 => ?_)
        · refine lv_iconst (v := 0) hx hb dX6_read_99 (by decide) ?_
          have hcd : cSh bi 2 = 7 := by unfold cSh; clear hx hb hml hown hr hlocks hw hsz hA hG hK hP3 hD3 hS3 hl3 ih_47; grind
          have hq9 : ([sO cy hh a kk dd b w ee qq ik] ++ (pS cy a S ++ ([ia cy (hh 1) 7 C] ++ (aS cy b (PR S) F1_42 N1_42 B1_42 O1_42 Sd1_42 Dv1_42 L1_42 (nI (RC S)) (b2i (RC S = 60)) (fresh S) (lost S) (b2i (smokes S = true)) ++ (shB cy qq bi si f))))) = ([sO cy hh a kk dd b w ee qq ik] ++ (pS cy a S ++ ([ia cy (hh 1) 7 (fnd C (cSh bi 2))] ++ (aS cy b (PR S) F1_42 N1_42 B1_42 O1_42 Sd1_42 Dv1_42 L1_42 (nI (RC S)) (b2i (RC S = 60)) (fresh S) (lost S) (b2i (smokes S = true)) ++ (shB cy qq bi si f))))) := congrArg (fun z9 => [sO cy hh a kk dd b w ee qq ik] ++ (pS cy a S ++ ([ia cy (hh 1) 7 z9] ++ (aS cy b (PR S) F1_42 N1_42 B1_42 O1_42 Sd1_42 Dv1_42 L1_42 (nI (RC S)) (b2i (RC S = 60)) (fresh S) (lost S) (b2i (smokes S = true)) ++ (shB cy qq bi si f))))) (show C = (fnd C (cSh bi 2)) from fnd_o hcd)
          replace hP3 := (congrArg (fun z9 => va_P D vwCl z9 _) hq9).mp hP3
          replace hD3 := (congrArg (fun z9 => va_D _ z9) hq9).mp hD3
          clear hq9
          refine re_i (PR S, F1_42, N1_42, B1_42, O1_42, Sd1_42, Dv1_42, L1_42, nI (RC S), b2i (RC S = 60), fresh S, lost S, b2i (smokes S = true)) hx hb hr hlocks hP3 hD3 hS3 dX6_read_100 ?_
          exact (ans_o hcd (by simp only [hb0, hb1, hb2, hb3]; obtain rfl : i = bstN (si 2) := (by omega); exact vRead_no hok))
        · refine lv_iload_n hx hb dX6_read_55 rfl (lv_at hl3 0 rfl) ?_
          refine lv_aload_n hx hb dX6_read_56 rfl (lv_at hl3 2 rfl) ?_
          refine va_get (D := D) (ci := 6) (v := .ref (a 0)) (C := RX6) (T := TX6) (N := 9) hx hb hw iX6 hown hK hP3 0 rfl rfl 0 (by decide) (hw _ kw_2_27) (fun _ h9 => h9) rfl dX6_read_57 ?_
          refine va_get (D := D) (ci := 1) (v := .int (S 1)) (C := RX1) (T := TX1) (N := 12) hx hb hw iX1 hown hK hP3 1 rfl rfl 1 (by decide) (hw _ kw_1_35) (fun _ h9 => h9) rfl dX6_read_60 ?_
          refine tp (show (S 1) = nI (gcN S) from wf_g wf) ?_
          refine ln_ge (tgt := 89) i (gcN S) rfl rfl (by omega) (by omega) hx hb dX6_read_63 (by decide) (fun c_63 => ?_) (fun c_63 => ?_)
          · refine lv_iconst (v := 1) hx hb dX6_read_89 (by decide) ?_
            refine lv_iload_n hx hb dX6_read_90 rfl (lv_at hl3 0 rfl) ?_
            refine lv_iadd hx hb dX6_read_91 ?_
            refine tp (show (1 + (nI i)) = nI (1 + i) from nI_add _ _) ?_
            refine tp (show (nI (1 + i)) = nI (i + 1) from congrArg nI (Nat.add_comm 1 i)) ?_
            have hcd : cSh bi 2 = 7 := by unfold cSh; clear hx hb hml hown hr hlocks hw hsz hA hG hK hP3 hD3 hS3 hl3 ih_47; grind
            have hq9 : ([sO cy hh a kk dd b w ee qq ik] ++ (pS cy a S ++ ([ia cy (hh 1) 7 C] ++ (aS cy b (PR S) F1_42 N1_42 B1_42 O1_42 Sd1_42 Dv1_42 L1_42 (nI (RC S)) (b2i (RC S = 60)) (fresh S) (lost S) (b2i (smokes S = true)) ++ (shB cy qq bi si f))))) = ([sO cy hh a kk dd b w ee qq ik] ++ (pS cy a S ++ ([ia cy (hh 1) 7 (fnd C (cSh bi 2))] ++ (aS cy b (PR S) F1_42 N1_42 B1_42 O1_42 Sd1_42 Dv1_42 L1_42 (nI (RC S)) (b2i (RC S = 60)) (fresh S) (lost S) (b2i (smokes S = true)) ++ (shB cy qq bi si f))))) := congrArg (fun z9 => [sO cy hh a kk dd b w ee qq ik] ++ (pS cy a S ++ ([ia cy (hh 1) 7 z9] ++ (aS cy b (PR S) F1_42 N1_42 B1_42 O1_42 Sd1_42 Dv1_42 L1_42 (nI (RC S)) (b2i (RC S = 60)) (fresh S) (lost S) (b2i (smokes S = true)) ++ (shB cy qq bi si f))))) (show C = (fnd C (cSh bi 2)) from fnd_o hcd)
            replace hP3 := (congrArg (fun z9 => va_P D vwCl z9 _) hq9).mp hP3
            replace hD3 := (congrArg (fun z9 => va_D _ z9) hq9).mp hD3
            clear hq9
            refine re_i (PR S, F1_42, N1_42, B1_42, O1_42, Sd1_42, Dv1_42, L1_42, nI (RC S), b2i (RC S = 60), fresh S, lost S, b2i (smokes S = true)) hx hb hr hlocks hP3 hD3 hS3 dX6_read_92 ?_
            exact (ans_o hcd (by simp only [hb0, hb1, hb2, hb3]; exact vRead_at (by omega) hok (decide_eq_false (fun z9 => absurd z9.1 (by omega)))))
          · refine lv_aload_n hx hb dX6_read_66 rfl (lv_at hl3 1 rfl) ?_
            refine va_get (D := D) (ci := 2) (v := .ref (qq 7)) (C := RX2) (T := TX2) (N := 3) hx hb hw iX2 hown hK hP3 30 rfl rfl 0 (by decide) (hw _ kw_2_14) (fun _ h9 => h9) rfl dX6_read_67 ?_
            refine lv_iload_n hx hb dX6_read_70 rfl (lv_at hl3 0 rfl) ?_
            refine ald_l (f := f 2) hx hb hK hP3 34 1 rfl rfl i rfl (by first | omega | assumption) (by decide) dX6_read_71 ?_
            refine lv_aload_n hx hb dX6_read_72 rfl (lv_at hl3 2 rfl) ?_
            refine va_get (D := D) (ci := 6) (v := .ref (b 0)) (C := RX6) (T := TX6) (N := 9) hx hb hw iX6 hown hK hP3 0 rfl rfl 4 (by decide) (hw _ kw_2_31) (fun _ h9 => h9) rfl dX6_read_73 ?_
            refine va_get (D := D) (ci := 0) (v := .ref (b 2)) (C := RX0) (T := TX0) (N := 13) hx hb hw iX0 hown hK hP3 12 rfl rfl 1 (by decide) (hw _ kw_1_106) (fun _ h9 => h9) rfl dX6_read_76 ?_
            refine lv_iload_n hx hb dX6_read_79 rfl (lv_at hl3 0 rfl) ?_
            refine ald_i (f := F1_42) hx hb hK hP3 14 0 rfl rfl i rfl (by first | omega | assumption) (by decide) dX6_read_80 ?_
            refine tp (show (F1_42 i) = flow S (PR S) i from hF_42 i c_63) ?_
            refine rT_i (wc := []) (rest := [.long (f 2 i)]) hx hb hml hown hw hG hK hP3 hS3 hA hl3 kc_X6_leanOf kw_3_92 [.int (flow S (PR S) i)] (c_X6_leanOf l D cy G H3.size (flow S (PR S) i)) [] rfl rfl rfl (Nat.le_of_ble_eq_true rfl) ⟨Nat.le_of_ble_eq_true rfl, Nat.le_of_ble_eq_true rfl⟩ dX6_read_81 ⟨Nat.le_of_ble_eq_true rfl, Nat.le_of_ble_eq_true rfl⟩ (fun r_81 H4 locs4 hr_81 hP4 hS4 => ?_)
            have hD4 := hD3
            clear hP3 hD3 hS3 locs3 H3
            subst hr_81
            refine lv_i2l hx hb dX6_read_84 rfl ?_
            refine W.lcmp hx hb dX6_read_85 ?_
            refine lv_if_eq (tgt := 93) hx hb dX6_read_86 (by decide) (fun c_86 => ?_) (fun c_86 => ?_)
            · refine lv_iinc (v := nI (i + 1)) (lv' := [(3, .int (nI (i + 1))), (2, .ref (qq 3)), (0, .ref (hh 0)), (1, .int 2)]) hx hb dX6_read_93 hl3 (k := 0) rfl (nI_inc _) (by decide) rfl (fun ls4 hl4 => ?_)
              clear hl3 ls3
              refine lv_goto (tgt := 47) hx hb dX6_read_96 (by decide) ?_
              exact ih_47 (i + 1) (⟨by first | omega | assumption | rfl | simp_all, fun g hg => by
                  by_cases e9 : g = i
                  · subst e9; exact decide_eq_true ⟨c_63, lg_eq.mp c_86⟩
                  · exact hok g (by omega)⟩) (by (try dsimp only); omega) H4 locs4 ls4 hP4 hD4 hS4 (lv_sub hl4 [0, 1, 2, 3] rfl)
            · refine lv_iconst (v := 1) hx hb dX6_read_89 (by decide) ?_
              refine lv_iload_n hx hb dX6_read_90 rfl (lv_at hl3 0 rfl) ?_
              refine lv_iadd hx hb dX6_read_91 ?_
              refine tp (show (1 + (nI i)) = nI (1 + i) from nI_add _ _) ?_
              refine tp (show (nI (1 + i)) = nI (i + 1) from congrArg nI (Nat.add_comm 1 i)) ?_
              have hcd : cSh bi 2 = 7 := by unfold cSh; clear hx hb hml hown hr hlocks hw hsz hA hG hK hP4 hD4 hS4 hl3 ih_47; grind
              have hq9 : ([sO cy hh a kk dd b w ee qq ik] ++ (pS cy a S ++ ([ia cy (hh 1) 7 C] ++ (aS cy b (PR S) F1_42 N1_42 B1_42 O1_42 Sd1_42 Dv1_42 L1_42 (nI (RC S)) (b2i (RC S = 60)) (fresh S) (lost S) (b2i (smokes S = true)) ++ (shB cy qq bi si f))))) = ([sO cy hh a kk dd b w ee qq ik] ++ (pS cy a S ++ ([ia cy (hh 1) 7 (fnd C (cSh bi 2))] ++ (aS cy b (PR S) F1_42 N1_42 B1_42 O1_42 Sd1_42 Dv1_42 L1_42 (nI (RC S)) (b2i (RC S = 60)) (fresh S) (lost S) (b2i (smokes S = true)) ++ (shB cy qq bi si f))))) := congrArg (fun z9 => [sO cy hh a kk dd b w ee qq ik] ++ (pS cy a S ++ ([ia cy (hh 1) 7 z9] ++ (aS cy b (PR S) F1_42 N1_42 B1_42 O1_42 Sd1_42 Dv1_42 L1_42 (nI (RC S)) (b2i (RC S = 60)) (fresh S) (lost S) (b2i (smokes S = true)) ++ (shB cy qq bi si f))))) (show C = (fnd C (cSh bi 2)) from fnd_o hcd)
              replace hP4 := (congrArg (fun z9 => va_P D vwCl z9 _) hq9).mp hP4
              replace hD4 := (congrArg (fun z9 => va_D _ z9) hq9).mp hD4
              clear hq9
              refine re_i (PR S, F1_42, N1_42, B1_42, O1_42, Sd1_42, Dv1_42, L1_42, nI (RC S), b2i (RC S = 60), fresh S, lost S, b2i (smokes S = true)) hx hb hr hlocks hP4 hD4 hS4 dX6_read_92 ?_
              exact (ans_o hcd (by simp only [hb0, hb1, hb2, hb3]; exact vRead_at (by omega) hok (decide_eq_false (fun z9 => c_86 (lg_eq.mpr z9.2)))))
      · refine lv_aload_n hx hb dX6_read_28 rfl (lv_at hl1 1 rfl) ?_
        refine lv_iconst (v := 5) hx hb dX6_read_29 (by decide) ?_
        refine cV_i (wc := [sO cy hh a kk dd b w ee qq ik, ia cy (hh 1) 7 C]) (wr := pS cy a S ++ (aS cy b P F N B O Sd Dv L rc re fr lo sm ++ (shB cy qq bi si f))) (rest := []) hx hb hml hown hw hG hK hP1 hD1 hS1 hA hl1 kc_X6_find kw_2_59 [.int 5] (c_X6_find l D cy G H1.size hh a kk dd b w ee qq ik C 5 (by first | omega | assumption)) [0, 11] [1, 2, 3, 4, 5, 6, 7, 8, 9, 10, 12, 13, 14, 15, 16, 17, 18, 19, 20, 21, 22, 23, 24, 25, 26, 27, 28, 29, 30, 31, 32, 33, 34, 35] rfl rfl rfl rfl rfl 0 rfl rfl rfl rfl rfl (Nat.le_of_ble_eq_true rfl) ⟨Nat.le_of_ble_eq_true rfl, Nat.le_of_ble_eq_true rfl⟩ dX6_read_30 ⟨Nat.le_of_ble_eq_true rfl, Nat.le_of_ble_eq_true rfl⟩ (fun r_30 u9 H2 locs2 hu9 hP2 hD2 hS2 => ?_)
        clear hP1 hD1 hS1 locs1 H1
        have hr_30 := hu9
        replace hP2 : va_P D vwCl (pS cy a S ++ (aS cy b P F N B O Sd Dv L rc re fr lo sm ++ (shB cy qq bi si f ++ ([sO cy hh a kk dd b w ee qq ik, ia cy (hh 1) 7 (upd C 5 (C 5 + 1))])))) H2 := hP2
        replace hD2 : va_D (va_A _ sz) (pS cy a S ++ (aS cy b P F N B O Sd Dv L rc re fr lo sm ++ (shB cy qq bi si f ++ ([sO cy hh a kk dd b w ee qq ik, ia cy (hh 1) 7 (upd C 5 (C 5 + 1))])))) := hD2
        replace hP2 := hP2.sub (ws' := [sO cy hh a kk dd b w ee qq ik] ++ (pS cy a S ++ ([ia cy (hh 1) 7 (upd C 5 (C 5 + 1))] ++ (aS cy b P F N B O Sd Dv L rc re fr lo sm ++ (shB cy qq bi si f))))) [34, 0, 1, 2, 3, 4, 5, 6, 7, 8, 9, 35, 10, 11, 12, 13, 14, 15, 16, 17, 18, 19, 20, 21, 22, 23, 24, 25, 26, 27, 28, 29, 30, 31, 32, 33] rfl
        replace hD2 := hD2.sub (ws' := [sO cy hh a kk dd b w ee qq ik] ++ (pS cy a S ++ ([ia cy (hh 1) 7 (upd C 5 (C 5 + 1))] ++ (aS cy b P F N B O Sd Dv L rc re fr lo sm ++ (shB cy qq bi si f))))) [34, 0, 1, 2, 3, 4, 5, 6, 7, 8, 9, 35, 10, 11, 12, 13, 14, 15, 16, 17, 18, 19, 20, 21, 22, 23, 24, 25, 26, 27, 28, 29, 30, 31, 32, 33] (by decide) rfl
        subst hr_30
        have hcd : cSh bi 2 = 5 := by unfold cSh; clear hx hb hml hown hr hlocks hw hsz hA hG hK hP2 hD2 hS2 hl1; grind
        have hq9 : ([sO cy hh a kk dd b w ee qq ik] ++ (pS cy a S ++ ([ia cy (hh 1) 7 (upd C 5 (C 5 + 1))] ++ (aS cy b P F N B O Sd Dv L rc re fr lo sm ++ (shB cy qq bi si f))))) = ([sO cy hh a kk dd b w ee qq ik] ++ (pS cy a S ++ ([ia cy (hh 1) 7 (fnd C (cSh bi 2))] ++ (aS cy b P F N B O Sd Dv L rc re fr lo sm ++ (shB cy qq bi si f))))) := congrArg (fun z9 => [sO cy hh a kk dd b w ee qq ik] ++ (pS cy a S ++ ([ia cy (hh 1) 7 z9] ++ (aS cy b P F N B O Sd Dv L rc re fr lo sm ++ (shB cy qq bi si f))))) (show (upd C 5 (C 5 + 1)) = (fnd C (cSh bi 2)) from fnd_f hcd (by decide))
        replace hP2 := (congrArg (fun z9 => va_P D vwCl z9 _) hq9).mp hP2
        replace hD2 := (congrArg (fun z9 => va_D _ z9) hq9).mp hD2
        clear hq9
        refine re_i (P, F, N, B, O, Sd, Dv, L, rc, re, fr, lo, sm) hx hb hr hlocks hP2 hD2 hS2 dX6_read_33 ?_
        exact (ans_f hcd (by decide) rfl)
    · refine lv_aload_n hx hb dX6_read_14 rfl (lv_at hl0 0 rfl) ?_
      refine va_get (D := D) (ci := 6) (v := .ref (qq 0)) (C := RX6) (T := TX6) (N := 9) hx hb hw iX6 hown hK hP1 0 rfl rfl 7 (by decide) (hw _ kw_2_34) (fun _ h9 => h9) rfl dX6_read_15 ?_
      refine lv_iload_n hx hb dX6_read_18 rfl (lv_at hl0 1 rfl) ?_
      refine ald_q hx hb hK hP1 27 3 rfl rfl rfl 3 rfl (by first | omega | assumption) (by decide) (rfl) dX6_read_19 ?_
      refine lv_astore_n (lv' := [(2, .ref (qq 4)), (0, .ref (hh 0)), (1, .int 3)]) hx hb dX6_read_20 rfl hl0 (by decide) rfl (fun ls1 hl1 => ?_)
      clear hl0 ls0
      refine lv_aload_n hx hb dX6_read_21 rfl (lv_at hl1 0 rfl) ?_
      refine va_get (D := D) (ci := 2) (v := .int (bi 3)) (C := RX2) (T := TX2) (N := 3) hx hb hw iX2 hown hK hP1 31 rfl rfl 1 (by decide) (hw _ kw_2_16) (fun _ h9 => h9) rfl dX6_read_22 ?_
      refine lv_if_ne (tgt := 34) hx hb dX6_read_25 (by decide) (fun c_25 => ?_) (fun c_25 => ?_)
      · refine lv_aload_n hx hb dX6_read_34 rfl (lv_at hl1 1 rfl) ?_
        refine va_get (D := D) (ci := 6) (v := .ref (b 0)) (C := RX6) (T := TX6) (N := 9) hx hb hw iX6 hown hK hP1 0 rfl rfl 4 (by decide) (hw _ kw_2_31) (fun _ h9 => h9) rfl dX6_read_35 ?_
        refine lv_aload_n hx hb dX6_read_38 rfl (lv_at hl1 1 rfl) ?_
        refine va_get (D := D) (ci := 6) (v := .ref (a 0)) (C := RX6) (T := TX6) (N := 9) hx hb hw iX6 hown hK hP1 0 rfl rfl 0 (by decide) (hw _ kw_2_27) (fun _ h9 => h9) rfl dX6_read_39 ?_
        refine cV_v (wc := aS cy b P F N B O Sd Dv L rc re fr lo sm ++ (pS cy a S)) (wr := [sO cy hh a kk dd b w ee qq ik, ia cy (hh 1) 7 C] ++ (shB cy qq bi si f)) (rest := []) hx hb hml hown hw hG hK hP1 hD1 hS1 hA hl1 kc_X0_settle kw_3_52 [.ref (a 0)] (c_X0_settle l D cy G H1.size b P F N B O Sd Dv L rc re fr lo sm a S (by first | omega | assumption)) [12, 13, 14, 15, 16, 17, 18, 19, 20, 21, 22, 23, 24, 25, 26, 1, 2, 3, 4, 5, 6, 7, 8, 9, 10] [0, 11, 27, 28, 29, 30, 31, 32, 33, 34, 35] rfl rfl rfl rfl rfl 0 rfl rfl rfl rfl rfl (Nat.le_of_ble_eq_true rfl) ⟨Nat.le_of_ble_eq_true rfl, Nat.le_of_ble_eq_true rfl⟩ dX6_read_42 ⟨Nat.le_of_ble_eq_true rfl, Nat.le_of_ble_eq_true rfl⟩ (fun u9 H2 locs2 hu9 hP2 hD2 hS2 => ?_)
        clear hP1 hD1 hS1 locs1 H1
        obtain ⟨F1_42, N1_42, B1_42, O1_42, Sd1_42, Dv1_42, L1_42⟩ := u9
        have hF_42 := hu9
        replace hF_42 : ∀ g, g < gcN S → F1_42 g = flow S (PR S) g := hF_42
        replace hP2 : va_P D vwCl ([sO cy hh a kk dd b w ee qq ik, ia cy (hh 1) 7 C] ++ (shB cy qq bi si f ++ (aS cy b (PR S) F1_42 N1_42 B1_42 O1_42 Sd1_42 Dv1_42 L1_42 (nI (RC S)) (b2i (RC S = 60)) (fresh S) (lost S) (b2i (smokes S = true)) ++ (pS cy a S)))) H2 := hP2
        replace hD2 : va_D (va_A _ sz) ([sO cy hh a kk dd b w ee qq ik, ia cy (hh 1) 7 C] ++ (shB cy qq bi si f ++ (aS cy b (PR S) F1_42 N1_42 B1_42 O1_42 Sd1_42 Dv1_42 L1_42 (nI (RC S)) (b2i (RC S = 60)) (fresh S) (lost S) (b2i (smokes S = true)) ++ (pS cy a S)))) := hD2
        replace hP2 := hP2.sub (ws' := [sO cy hh a kk dd b w ee qq ik] ++ (pS cy a S ++ ([ia cy (hh 1) 7 C] ++ (aS cy b (PR S) F1_42 N1_42 B1_42 O1_42 Sd1_42 Dv1_42 L1_42 (nI (RC S)) (b2i (RC S = 60)) (fresh S) (lost S) (b2i (smokes S = true)) ++ (shB cy qq bi si f))))) [0, 26, 27, 28, 29, 30, 31, 32, 33, 34, 35, 1, 11, 12, 13, 14, 15, 16, 17, 18, 19, 20, 21, 22, 23, 24, 25, 2, 3, 4, 5, 6, 7, 8, 9, 10] rfl
        replace hD2 := hD2.sub (ws' := [sO cy hh a kk dd b w ee qq ik] ++ (pS cy a S ++ ([ia cy (hh 1) 7 C] ++ (aS cy b (PR S) F1_42 N1_42 B1_42 O1_42 Sd1_42 Dv1_42 L1_42 (nI (RC S)) (b2i (RC S = 60)) (fresh S) (lost S) (b2i (smokes S = true)) ++ (shB cy qq bi si f))))) [0, 26, 27, 28, 29, 30, 31, 32, 33, 34, 35, 1, 11, 12, 13, 14, 15, 16, 17, 18, 19, 20, 21, 22, 23, 24, 25, 2, 3, 4, 5, 6, 7, 8, 9, 10] (by decide) rfl
        refine lv_iconst (v := 0) hx hb dX6_read_45 (by decide) ?_
        refine lv_istore_n (lv' := [(3, .int 0), (2, .ref (qq 4)), (0, .ref (hh 0)), (1, .int 3)]) hx hb dX6_read_46 rfl hl1 (by decide) rfl (fun ls2 hl2 => ?_)
        clear hl1 ls1
        refine wlp (ι := Nat) (nL := 4) (fun x9 => (x9 ≤ bstN (si 3)) ∧ (∀ g, g < x9 → okR S (f 3) g = true)) (fun x9 => [sO cy hh a kk dd b w ee qq ik] ++ (pS cy a S ++ ([ia cy (hh 1) 7 C] ++ (aS cy b (PR S) F1_42 N1_42 B1_42 O1_42 Sd1_42 Dv1_42 L1_42 (nI (RC S)) (b2i (RC S = 60)) (fresh S) (lost S) (b2i (smokes S = true)) ++ (shB cy qq bi si f))))) (fun x9 => [(3, .int (nI x9)), (2, .ref (qq 4)), (0, .ref (hh 0)), (1, .int 3)]) (fun x9 => []) (fun x9 => bstN (si 3) - x9) 47 ?_ 0 (⟨by first | omega | assumption | rfl | simp_all, fun g hg => absurd hg (Nat.not_lt_zero g)⟩) rfl hP2 hD2 hS2 (lv_sub hl2 [0, 1, 2, 3] rfl)
        clear hP2 hD2 hS2 locs2 H2 hl2 ls2
        intro x9 hI ih_47 H3 locs3 ls3 hP3 hD3 hS3 hl3
        obtain ⟨i, rfl⟩ : ∃ z9, z9 = x9 := ⟨_, rfl⟩
        obtain ⟨hi, hok⟩ := hI
        replace hi : i ≤ bstN (si 3) := hi
        replace hok : ∀ g, g < i → okR S (f 3) g = true := hok
        replace hP3 : va_P D vwCl ([sO cy hh a kk dd b w ee qq ik] ++ (pS cy a S ++ ([ia cy (hh 1) 7 C] ++ (aS cy b (PR S) F1_42 N1_42 B1_42 O1_42 Sd1_42 Dv1_42 L1_42 (nI (RC S)) (b2i (RC S = 60)) (fresh S) (lost S) (b2i (smokes S = true)) ++ (shB cy qq bi si f))))) H3 := hP3
        replace hD3 : va_D (va_A _ sz) ([sO cy hh a kk dd b w ee qq ik] ++ (pS cy a S ++ ([ia cy (hh 1) 7 C] ++ (aS cy b (PR S) F1_42 N1_42 B1_42 O1_42 Sd1_42 Dv1_42 L1_42 (nI (RC S)) (b2i (RC S = 60)) (fresh S) (lost S) (b2i (smokes S = true)) ++ (shB cy qq bi si f))))) := hD3
        replace hl3 : lv_has ls3 4 [(3, .int (nI i)), (2, .ref (qq 4)), (0, .ref (hh 0)), (1, .int 3)] := hl3
        show W p l e _ s m _ below meth c _ _ _ _ _ (F0 m 47 ls3 [])
        refine lv_iload_n hx hb dX6_read_47 rfl (lv_at hl3 0 rfl) ?_
        refine lv_aload_n hx hb dX6_read_48 rfl (lv_at hl3 1 rfl) ?_
        refine va_get (D := D) (ci := 2) (v := .int (si 3)) (C := RX2) (T := TX2) (N := 3) hx hb hw iX2 hown hK hP3 31 rfl rfl 2 (by decide) (hw _ kw_2_18) (fun _ h9 => h9) rfl dX6_read_49 ?_
        refine tp (show (si 3) = nI (bstN (si 3)) from (hso 3 (by decide)).1) ?_
        refine ln_ge (tgt := 99) i (bstN (si 3)) rfl rfl (by omega) (by omega) hx hb dX6_read_52 (by decide) (fun c_52 => ?_) (fun c_52 => ?_)
        · refine lv_iconst (v := 0) hx hb dX6_read_99 (by decide) ?_
          have hcd : cSh bi 3 = 7 := by unfold cSh; clear hx hb hml hown hr hlocks hw hsz hA hG hK hP3 hD3 hS3 hl3 ih_47; grind
          have hq9 : ([sO cy hh a kk dd b w ee qq ik] ++ (pS cy a S ++ ([ia cy (hh 1) 7 C] ++ (aS cy b (PR S) F1_42 N1_42 B1_42 O1_42 Sd1_42 Dv1_42 L1_42 (nI (RC S)) (b2i (RC S = 60)) (fresh S) (lost S) (b2i (smokes S = true)) ++ (shB cy qq bi si f))))) = ([sO cy hh a kk dd b w ee qq ik] ++ (pS cy a S ++ ([ia cy (hh 1) 7 (fnd C (cSh bi 3))] ++ (aS cy b (PR S) F1_42 N1_42 B1_42 O1_42 Sd1_42 Dv1_42 L1_42 (nI (RC S)) (b2i (RC S = 60)) (fresh S) (lost S) (b2i (smokes S = true)) ++ (shB cy qq bi si f))))) := congrArg (fun z9 => [sO cy hh a kk dd b w ee qq ik] ++ (pS cy a S ++ ([ia cy (hh 1) 7 z9] ++ (aS cy b (PR S) F1_42 N1_42 B1_42 O1_42 Sd1_42 Dv1_42 L1_42 (nI (RC S)) (b2i (RC S = 60)) (fresh S) (lost S) (b2i (smokes S = true)) ++ (shB cy qq bi si f))))) (show C = (fnd C (cSh bi 3)) from fnd_o hcd)
          replace hP3 := (congrArg (fun z9 => va_P D vwCl z9 _) hq9).mp hP3
          replace hD3 := (congrArg (fun z9 => va_D _ z9) hq9).mp hD3
          clear hq9
          refine re_i (PR S, F1_42, N1_42, B1_42, O1_42, Sd1_42, Dv1_42, L1_42, nI (RC S), b2i (RC S = 60), fresh S, lost S, b2i (smokes S = true)) hx hb hr hlocks hP3 hD3 hS3 dX6_read_100 ?_
          exact (ans_o hcd (by simp only [hb0, hb1, hb2, hb3]; obtain rfl : i = bstN (si 3) := (by omega); exact vRead_no hok))
        · refine lv_iload_n hx hb dX6_read_55 rfl (lv_at hl3 0 rfl) ?_
          refine lv_aload_n hx hb dX6_read_56 rfl (lv_at hl3 2 rfl) ?_
          refine va_get (D := D) (ci := 6) (v := .ref (a 0)) (C := RX6) (T := TX6) (N := 9) hx hb hw iX6 hown hK hP3 0 rfl rfl 0 (by decide) (hw _ kw_2_27) (fun _ h9 => h9) rfl dX6_read_57 ?_
          refine va_get (D := D) (ci := 1) (v := .int (S 1)) (C := RX1) (T := TX1) (N := 12) hx hb hw iX1 hown hK hP3 1 rfl rfl 1 (by decide) (hw _ kw_1_35) (fun _ h9 => h9) rfl dX6_read_60 ?_
          refine tp (show (S 1) = nI (gcN S) from wf_g wf) ?_
          refine ln_ge (tgt := 89) i (gcN S) rfl rfl (by omega) (by omega) hx hb dX6_read_63 (by decide) (fun c_63 => ?_) (fun c_63 => ?_)
          · refine lv_iconst (v := 1) hx hb dX6_read_89 (by decide) ?_
            refine lv_iload_n hx hb dX6_read_90 rfl (lv_at hl3 0 rfl) ?_
            refine lv_iadd hx hb dX6_read_91 ?_
            refine tp (show (1 + (nI i)) = nI (1 + i) from nI_add _ _) ?_
            refine tp (show (nI (1 + i)) = nI (i + 1) from congrArg nI (Nat.add_comm 1 i)) ?_
            have hcd : cSh bi 3 = 7 := by unfold cSh; clear hx hb hml hown hr hlocks hw hsz hA hG hK hP3 hD3 hS3 hl3 ih_47; grind
            have hq9 : ([sO cy hh a kk dd b w ee qq ik] ++ (pS cy a S ++ ([ia cy (hh 1) 7 C] ++ (aS cy b (PR S) F1_42 N1_42 B1_42 O1_42 Sd1_42 Dv1_42 L1_42 (nI (RC S)) (b2i (RC S = 60)) (fresh S) (lost S) (b2i (smokes S = true)) ++ (shB cy qq bi si f))))) = ([sO cy hh a kk dd b w ee qq ik] ++ (pS cy a S ++ ([ia cy (hh 1) 7 (fnd C (cSh bi 3))] ++ (aS cy b (PR S) F1_42 N1_42 B1_42 O1_42 Sd1_42 Dv1_42 L1_42 (nI (RC S)) (b2i (RC S = 60)) (fresh S) (lost S) (b2i (smokes S = true)) ++ (shB cy qq bi si f))))) := congrArg (fun z9 => [sO cy hh a kk dd b w ee qq ik] ++ (pS cy a S ++ ([ia cy (hh 1) 7 z9] ++ (aS cy b (PR S) F1_42 N1_42 B1_42 O1_42 Sd1_42 Dv1_42 L1_42 (nI (RC S)) (b2i (RC S = 60)) (fresh S) (lost S) (b2i (smokes S = true)) ++ (shB cy qq bi si f))))) (show C = (fnd C (cSh bi 3)) from fnd_o hcd)
            replace hP3 := (congrArg (fun z9 => va_P D vwCl z9 _) hq9).mp hP3
            replace hD3 := (congrArg (fun z9 => va_D _ z9) hq9).mp hD3
            clear hq9
            refine re_i (PR S, F1_42, N1_42, B1_42, O1_42, Sd1_42, Dv1_42, L1_42, nI (RC S), b2i (RC S = 60), fresh S, lost S, b2i (smokes S = true)) hx hb hr hlocks hP3 hD3 hS3 dX6_read_92 ?_
            exact (ans_o hcd (by simp only [hb0, hb1, hb2, hb3]; exact vRead_at (by omega) hok (decide_eq_false (fun z9 => absurd z9.1 (by omega)))))
          · refine lv_aload_n hx hb dX6_read_66 rfl (lv_at hl3 1 rfl) ?_
            refine va_get (D := D) (ci := 2) (v := .ref (qq 8)) (C := RX2) (T := TX2) (N := 3) hx hb hw iX2 hown hK hP3 31 rfl rfl 0 (by decide) (hw _ kw_2_14) (fun _ h9 => h9) rfl dX6_read_67 ?_
            refine lv_iload_n hx hb dX6_read_70 rfl (lv_at hl3 0 rfl) ?_
            refine ald_l (f := f 3) hx hb hK hP3 35 1 rfl rfl i rfl (by first | omega | assumption) (by decide) dX6_read_71 ?_
            refine lv_aload_n hx hb dX6_read_72 rfl (lv_at hl3 2 rfl) ?_
            refine va_get (D := D) (ci := 6) (v := .ref (b 0)) (C := RX6) (T := TX6) (N := 9) hx hb hw iX6 hown hK hP3 0 rfl rfl 4 (by decide) (hw _ kw_2_31) (fun _ h9 => h9) rfl dX6_read_73 ?_
            refine va_get (D := D) (ci := 0) (v := .ref (b 2)) (C := RX0) (T := TX0) (N := 13) hx hb hw iX0 hown hK hP3 12 rfl rfl 1 (by decide) (hw _ kw_1_106) (fun _ h9 => h9) rfl dX6_read_76 ?_
            refine lv_iload_n hx hb dX6_read_79 rfl (lv_at hl3 0 rfl) ?_
            refine ald_i (f := F1_42) hx hb hK hP3 14 0 rfl rfl i rfl (by first | omega | assumption) (by decide) dX6_read_80 ?_
            refine tp (show (F1_42 i) = flow S (PR S) i from hF_42 i c_63) ?_
            refine rT_i (wc := []) (rest := [.long (f 3 i)]) hx hb hml hown hw hG hK hP3 hS3 hA hl3 kc_X6_leanOf kw_3_92 [.int (flow S (PR S) i)] (c_X6_leanOf l D cy G H3.size (flow S (PR S) i)) [] rfl rfl rfl (Nat.le_of_ble_eq_true rfl) ⟨Nat.le_of_ble_eq_true rfl, Nat.le_of_ble_eq_true rfl⟩ dX6_read_81 ⟨Nat.le_of_ble_eq_true rfl, Nat.le_of_ble_eq_true rfl⟩ (fun r_81 H4 locs4 hr_81 hP4 hS4 => ?_)
            have hD4 := hD3
            clear hP3 hD3 hS3 locs3 H3
            subst hr_81
            refine lv_i2l hx hb dX6_read_84 rfl ?_
            refine W.lcmp hx hb dX6_read_85 ?_
            refine lv_if_eq (tgt := 93) hx hb dX6_read_86 (by decide) (fun c_86 => ?_) (fun c_86 => ?_)
            · refine lv_iinc (v := nI (i + 1)) (lv' := [(3, .int (nI (i + 1))), (2, .ref (qq 4)), (0, .ref (hh 0)), (1, .int 3)]) hx hb dX6_read_93 hl3 (k := 0) rfl (nI_inc _) (by decide) rfl (fun ls4 hl4 => ?_)
              clear hl3 ls3
              refine lv_goto (tgt := 47) hx hb dX6_read_96 (by decide) ?_
              exact ih_47 (i + 1) (⟨by first | omega | assumption | rfl | simp_all, fun g hg => by
                  by_cases e9 : g = i
                  · subst e9; exact decide_eq_true ⟨c_63, lg_eq.mp c_86⟩
                  · exact hok g (by omega)⟩) (by (try dsimp only); omega) H4 locs4 ls4 hP4 hD4 hS4 (lv_sub hl4 [0, 1, 2, 3] rfl)
            · refine lv_iconst (v := 1) hx hb dX6_read_89 (by decide) ?_
              refine lv_iload_n hx hb dX6_read_90 rfl (lv_at hl3 0 rfl) ?_
              refine lv_iadd hx hb dX6_read_91 ?_
              refine tp (show (1 + (nI i)) = nI (1 + i) from nI_add _ _) ?_
              refine tp (show (nI (1 + i)) = nI (i + 1) from congrArg nI (Nat.add_comm 1 i)) ?_
              have hcd : cSh bi 3 = 7 := by unfold cSh; clear hx hb hml hown hr hlocks hw hsz hA hG hK hP4 hD4 hS4 hl3 ih_47; grind
              have hq9 : ([sO cy hh a kk dd b w ee qq ik] ++ (pS cy a S ++ ([ia cy (hh 1) 7 C] ++ (aS cy b (PR S) F1_42 N1_42 B1_42 O1_42 Sd1_42 Dv1_42 L1_42 (nI (RC S)) (b2i (RC S = 60)) (fresh S) (lost S) (b2i (smokes S = true)) ++ (shB cy qq bi si f))))) = ([sO cy hh a kk dd b w ee qq ik] ++ (pS cy a S ++ ([ia cy (hh 1) 7 (fnd C (cSh bi 3))] ++ (aS cy b (PR S) F1_42 N1_42 B1_42 O1_42 Sd1_42 Dv1_42 L1_42 (nI (RC S)) (b2i (RC S = 60)) (fresh S) (lost S) (b2i (smokes S = true)) ++ (shB cy qq bi si f))))) := congrArg (fun z9 => [sO cy hh a kk dd b w ee qq ik] ++ (pS cy a S ++ ([ia cy (hh 1) 7 z9] ++ (aS cy b (PR S) F1_42 N1_42 B1_42 O1_42 Sd1_42 Dv1_42 L1_42 (nI (RC S)) (b2i (RC S = 60)) (fresh S) (lost S) (b2i (smokes S = true)) ++ (shB cy qq bi si f))))) (show C = (fnd C (cSh bi 3)) from fnd_o hcd)
              replace hP4 := (congrArg (fun z9 => va_P D vwCl z9 _) hq9).mp hP4
              replace hD4 := (congrArg (fun z9 => va_D _ z9) hq9).mp hD4
              clear hq9
              refine re_i (PR S, F1_42, N1_42, B1_42, O1_42, Sd1_42, Dv1_42, L1_42, nI (RC S), b2i (RC S = 60), fresh S, lost S, b2i (smokes S = true)) hx hb hr hlocks hP4 hD4 hS4 dX6_read_92 ?_
              exact (ans_o hcd (by simp only [hb0, hb1, hb2, hb3]; exact vRead_at (by omega) hok (decide_eq_false (fun z9 => c_86 (lg_eq.mpr z9.2)))))
      · refine lv_aload_n hx hb dX6_read_28 rfl (lv_at hl1 1 rfl) ?_
        refine lv_iconst (v := 5) hx hb dX6_read_29 (by decide) ?_
        refine cV_i (wc := [sO cy hh a kk dd b w ee qq ik, ia cy (hh 1) 7 C]) (wr := pS cy a S ++ (aS cy b P F N B O Sd Dv L rc re fr lo sm ++ (shB cy qq bi si f))) (rest := []) hx hb hml hown hw hG hK hP1 hD1 hS1 hA hl1 kc_X6_find kw_2_59 [.int 5] (c_X6_find l D cy G H1.size hh a kk dd b w ee qq ik C 5 (by first | omega | assumption)) [0, 11] [1, 2, 3, 4, 5, 6, 7, 8, 9, 10, 12, 13, 14, 15, 16, 17, 18, 19, 20, 21, 22, 23, 24, 25, 26, 27, 28, 29, 30, 31, 32, 33, 34, 35] rfl rfl rfl rfl rfl 0 rfl rfl rfl rfl rfl (Nat.le_of_ble_eq_true rfl) ⟨Nat.le_of_ble_eq_true rfl, Nat.le_of_ble_eq_true rfl⟩ dX6_read_30 ⟨Nat.le_of_ble_eq_true rfl, Nat.le_of_ble_eq_true rfl⟩ (fun r_30 u9 H2 locs2 hu9 hP2 hD2 hS2 => ?_)
        clear hP1 hD1 hS1 locs1 H1
        have hr_30 := hu9
        replace hP2 : va_P D vwCl (pS cy a S ++ (aS cy b P F N B O Sd Dv L rc re fr lo sm ++ (shB cy qq bi si f ++ ([sO cy hh a kk dd b w ee qq ik, ia cy (hh 1) 7 (upd C 5 (C 5 + 1))])))) H2 := hP2
        replace hD2 : va_D (va_A _ sz) (pS cy a S ++ (aS cy b P F N B O Sd Dv L rc re fr lo sm ++ (shB cy qq bi si f ++ ([sO cy hh a kk dd b w ee qq ik, ia cy (hh 1) 7 (upd C 5 (C 5 + 1))])))) := hD2
        replace hP2 := hP2.sub (ws' := [sO cy hh a kk dd b w ee qq ik] ++ (pS cy a S ++ ([ia cy (hh 1) 7 (upd C 5 (C 5 + 1))] ++ (aS cy b P F N B O Sd Dv L rc re fr lo sm ++ (shB cy qq bi si f))))) [34, 0, 1, 2, 3, 4, 5, 6, 7, 8, 9, 35, 10, 11, 12, 13, 14, 15, 16, 17, 18, 19, 20, 21, 22, 23, 24, 25, 26, 27, 28, 29, 30, 31, 32, 33] rfl
        replace hD2 := hD2.sub (ws' := [sO cy hh a kk dd b w ee qq ik] ++ (pS cy a S ++ ([ia cy (hh 1) 7 (upd C 5 (C 5 + 1))] ++ (aS cy b P F N B O Sd Dv L rc re fr lo sm ++ (shB cy qq bi si f))))) [34, 0, 1, 2, 3, 4, 5, 6, 7, 8, 9, 35, 10, 11, 12, 13, 14, 15, 16, 17, 18, 19, 20, 21, 22, 23, 24, 25, 26, 27, 28, 29, 30, 31, 32, 33] (by decide) rfl
        subst hr_30
        have hcd : cSh bi 3 = 5 := by unfold cSh; clear hx hb hml hown hr hlocks hw hsz hA hG hK hP2 hD2 hS2 hl1; grind
        have hq9 : ([sO cy hh a kk dd b w ee qq ik] ++ (pS cy a S ++ ([ia cy (hh 1) 7 (upd C 5 (C 5 + 1))] ++ (aS cy b P F N B O Sd Dv L rc re fr lo sm ++ (shB cy qq bi si f))))) = ([sO cy hh a kk dd b w ee qq ik] ++ (pS cy a S ++ ([ia cy (hh 1) 7 (fnd C (cSh bi 3))] ++ (aS cy b P F N B O Sd Dv L rc re fr lo sm ++ (shB cy qq bi si f))))) := congrArg (fun z9 => [sO cy hh a kk dd b w ee qq ik] ++ (pS cy a S ++ ([ia cy (hh 1) 7 z9] ++ (aS cy b P F N B O Sd Dv L rc re fr lo sm ++ (shB cy qq bi si f))))) (show (upd C 5 (C 5 + 1)) = (fnd C (cSh bi 3)) from fnd_f hcd (by decide))
        replace hP2 := (congrArg (fun z9 => va_P D vwCl z9 _) hq9).mp hP2
        replace hD2 := (congrArg (fun z9 => va_D _ z9) hq9).mp hD2
        clear hq9
        refine re_i (P, F, N, B, O, Sd, Dv, L, rc, re, fr, lo, sm) hx hb hr hlocks hP2 hD2 hS2 dX6_read_33 ?_
        exact (ans_f hcd (by decide) rfl)
  · refine lv_aload_n hx hb dX6_read_8 rfl (lv_at hl0 0 rfl) ?_
    refine lv_iconst (v := 0) hx hb dX6_read_9 (by decide) ?_
    refine cV_i (wc := [sO cy hh a kk dd b w ee qq ik, ia cy (hh 1) 7 C]) (wr := pS cy a S ++ (aS cy b P F N B O Sd Dv L rc re fr lo sm ++ (shB cy qq bi si f))) (rest := []) hx hb hml hown hw hG hK hP1 hD1 hS1 hA hl0 kc_X6_find kw_2_59 [.int 0] (c_X6_find l D cy G H1.size hh a kk dd b w ee qq ik C 0 (by first | omega | assumption)) [0, 11] [1, 2, 3, 4, 5, 6, 7, 8, 9, 10, 12, 13, 14, 15, 16, 17, 18, 19, 20, 21, 22, 23, 24, 25, 26, 27, 28, 29, 30, 31, 32, 33, 34, 35] rfl rfl rfl rfl rfl 0 rfl rfl rfl rfl rfl (Nat.le_of_ble_eq_true rfl) ⟨Nat.le_of_ble_eq_true rfl, Nat.le_of_ble_eq_true rfl⟩ dX6_read_10 ⟨Nat.le_of_ble_eq_true rfl, Nat.le_of_ble_eq_true rfl⟩ (fun r_10 u9 H2 locs2 hu9 hP2 hD2 hS2 => ?_)
    clear hP1 hD1 hS1 locs1 H1
    have hr_10 := hu9
    replace hP2 : va_P D vwCl (pS cy a S ++ (aS cy b P F N B O Sd Dv L rc re fr lo sm ++ (shB cy qq bi si f ++ ([sO cy hh a kk dd b w ee qq ik, ia cy (hh 1) 7 (upd C 0 (C 0 + 1))])))) H2 := hP2
    replace hD2 : va_D (va_A _ sz) (pS cy a S ++ (aS cy b P F N B O Sd Dv L rc re fr lo sm ++ (shB cy qq bi si f ++ ([sO cy hh a kk dd b w ee qq ik, ia cy (hh 1) 7 (upd C 0 (C 0 + 1))])))) := hD2
    replace hP2 := hP2.sub (ws' := [sO cy hh a kk dd b w ee qq ik] ++ (pS cy a S ++ ([ia cy (hh 1) 7 (upd C 0 (C 0 + 1))] ++ (aS cy b P F N B O Sd Dv L rc re fr lo sm ++ (shB cy qq bi si f))))) [34, 0, 1, 2, 3, 4, 5, 6, 7, 8, 9, 35, 10, 11, 12, 13, 14, 15, 16, 17, 18, 19, 20, 21, 22, 23, 24, 25, 26, 27, 28, 29, 30, 31, 32, 33] rfl
    replace hD2 := hD2.sub (ws' := [sO cy hh a kk dd b w ee qq ik] ++ (pS cy a S ++ ([ia cy (hh 1) 7 (upd C 0 (C 0 + 1))] ++ (aS cy b P F N B O Sd Dv L rc re fr lo sm ++ (shB cy qq bi si f))))) [34, 0, 1, 2, 3, 4, 5, 6, 7, 8, 9, 35, 10, 11, 12, 13, 14, 15, 16, 17, 18, 19, 20, 21, 22, 23, 24, 25, 26, 27, 28, 29, 30, 31, 32, 33] (by decide) rfl
    subst hr_10
    have hcd : cSh bi x1 = 0 := by unfold cSh; clear hx hb hml hown hr hlocks hw hsz hA hG hK hP2 hD2 hS2 hl0; grind
    have hq9 : ([sO cy hh a kk dd b w ee qq ik] ++ (pS cy a S ++ ([ia cy (hh 1) 7 (upd C 0 (C 0 + 1))] ++ (aS cy b P F N B O Sd Dv L rc re fr lo sm ++ (shB cy qq bi si f))))) = ([sO cy hh a kk dd b w ee qq ik] ++ (pS cy a S ++ ([ia cy (hh 1) 7 (fnd C (cSh bi x1))] ++ (aS cy b P F N B O Sd Dv L rc re fr lo sm ++ (shB cy qq bi si f))))) := congrArg (fun z9 => [sO cy hh a kk dd b w ee qq ik] ++ (pS cy a S ++ ([ia cy (hh 1) 7 z9] ++ (aS cy b P F N B O Sd Dv L rc re fr lo sm ++ (shB cy qq bi si f))))) (show (upd C 0 (C 0 + 1)) = (fnd C (cSh bi x1)) from fnd_f hcd (by decide))
    replace hP2 := (congrArg (fun z9 => va_P D vwCl z9 _) hq9).mp hP2
    replace hD2 := (congrArg (fun z9 => va_D _ z9) hq9).mp hD2
    clear hq9
    refine re_i (P, F, N, B, O, Sd, Dv, L, rc, re, fr, lo, sm) hx hb hr hlocks hP2 hD2 hS2 dX6_read_13 ?_
    exact (ans_f hcd (by decide) rfl)
