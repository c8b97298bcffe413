theorem kc_X7_number : kV yX7_number cX7_number 6 none 2 := ⟨kw_5_35, kw_s_44, kw_1_8, kw_5_36, by decide, by decide, by decide +kernel⟩
set_option maxHeartbeats 4000000 in
set_option maxRecDepth 100000 in
theorem c_X7_number (l : Launch) (D : va_G) (cy : Nat → ClassId) (G : Nat → Nat) (sz : Nat) (mm : Nat → Nat) (ik : Int32) (vl : Int32) (rm : Int32) (rr : Int32) (om : Int32) (n : Nat) (T : Nat → Int32) (rq : Bool × Nat) (x1 : Int32) (hn : n ≤ 120) (hs : rq.2 ≤ n) (hm : x1 ≤ 999) : Met l yX7_number (wm yX7_number cX7_number 6 none) { frames := 4, cells := 0, slots := 0, locals := 88 } (va_Pc [.ref (mm 0), .int 0, .int x1] (pr D (TY cy) G ([mO cy mm ik (nI n) (nI (rq.2)) (nI (te T n (rq.2))) vl (b2i (rq.1 = true)) rm rr om, ia cy (mm 5) 120 T]) sz)) (va_Qv (fun (u : Int32) => (nmR T n x1 rq).1 = false → u = nI (numV T n (rq.2))) (fun (u : Int32) t => po D (va_A ([mO cy mm ik (nI n) (nI (rq.2)) (nI (te T n (rq.2))) vl (b2i (rq.1 = true)) rm rr om, ia cy (mm 5) 120 T]) sz) ([mO cy mm ik (nI n) (nI ((nmR T n x1 rq).2)) (nI (te T n ((nmR T n x1 rq).2))) u (b2i ((nmR T n x1 rq).1 = true)) rm rr om, ia cy (mm 5) 120 T]) t) (va_A ([mO cy mm ik (nI n) (nI (rq.2)) (nI (te T n (rq.2))) vl (b2i (rq.1 = true)) rm rr om, ia cy (mm 5) 120 T]) sz)) 0 0 (va_A ([mO cy mm ik (nI n) (nI (rq.2)) (nI (te T n (rq.2))) vl (b2i (rq.1 = true)) rm rr om, ia cy (mm 5) 120 T]) sz) := by
  refine mk_rw (by decide) RX7 rfl (Nat.le_of_ble_eq_true rfl) [(0, .ref (mm 0)), (1, .int 0), (2, .int x1)] rfl ?_
  intro p e s m below meth c hx hb hml hown hr hlocks hin hw hsz hA hG hK H0 locs0 hP0 hD0 hS0 ls0 hl0
  clear hin
  have hte := te_b (T := T) hs
  refine lv_aload_n hx hb dX7_number_0 rfl (lv_at hl0 0 rfl) ?_
  refine va_get (D := D) (ci := 7) (v := .int (b2i (rq.1 = true))) (C := RX7) (T := TX7) (N := 23) hx hb hw iX7 hown hK hP0 0 rfl rfl 10 (by decide) (hw _ kw_4_74) (fun _ h9 => h9) rfl dX7_number_1 ?_
  refine lb_eq (tgt := 8) hx hb dX7_number_4 (by decide) (fun c_4 => ?_) (fun c_4 => ?_)
  · refine lv_aload_n hx hb dX7_number_8 rfl (lv_at hl0 0 rfl) ?_
    refine lv_aload_n hx hb dX7_number_9 rfl (lv_at hl0 0 rfl) ?_
    refine va_get (D := D) (ci := 7) (v := .int (nI (rq.2))) (C := RX7) (T := TX7) (N := 23) hx hb hw iX7 hown hK hP0 0 rfl rfl 7 (by decide) (hw _ kw_4_71) (fun _ h9 => h9) rfl dX7_number_10 ?_
    refine rV_i (wc := [mO cy mm ik (nI n) (nI (rq.2)) (nI (te T n (rq.2))) vl (b2i (rq.1 = true)) rm rr om, ia cy (mm 5) 120 T]) (rest := []) hx hb hml hown hw hG hK hP0 hS0 hA hl0 kc_X7_byteAt kw_4_235 [.int (nI (rq.2))] (c_X7_byteAt l D cy G H0.size mm ik (nI (rq.2)) (nI (te T n (rq.2))) vl (b2i (rq.1 = true)) rm rr om n T rq.2 (by first | omega | assumption) (by first | omega | assumption)) [0, 1] rfl 0 rfl rfl rfl rfl rfl (Nat.le_of_ble_eq_true rfl) ⟨Nat.le_of_ble_eq_true rfl, Nat.le_of_ble_eq_true rfl⟩ dX7_number_13 ⟨Nat.le_of_ble_eq_true rfl, Nat.le_of_ble_eq_true rfl⟩ (fun r_13 H1 locs1 hr_13 hP1 hS1 => ?_)
    have hD1 := hD0
    clear hP0 hD0 hS0 locs0 H0
    subst hr_13
    refine rT_i (wc := []) (rest := []) hx hb hml hown hw hG hK hP1 hS1 hA hl0 kc_X7_isDigit kw_5_4 [.int (bt T n rq.2)] (c_X7_isDigit l D cy G H1.size (bt T n rq.2)) [] rfl rfl rfl (Nat.le_of_ble_eq_true rfl) ⟨Nat.le_of_ble_eq_true rfl, Nat.le_of_ble_eq_true rfl⟩ dX7_number_16 ⟨Nat.le_of_ble_eq_true rfl, Nat.le_of_ble_eq_true rfl⟩ (fun r_16 H2 locs2 hr_16 hP2 hS2 => ?_)
    have hD2 := hD1
    clear hP1 hD1 hS1 locs1 H1
    subst hr_16
    refine lv_istore_n (lv' := [(3, .int (b2i (48 ≤ (bt T n rq.2) ∧ (bt T n rq.2) ≤ 57))), (0, .ref (mm 0)), (1, .int 0), (2, .int x1)]) hx hb dX7_number_19 rfl hl0 (by decide) rfl (fun ls1 hl1 => ?_)
    clear hl0 ls0
    by_cases hdi : isD (bt T n (rq.2))
    · have h9hdi := hdi
      have hq9 : 1 = b2i (48 ≤ (bt T n rq.2) ∧ (bt T n rq.2) ≤ 57) := (b2i_t hdi).symm
      replace hl1 : lv_has ls1 6 [(3, .int 1), (0, .ref (mm 0)), (1, .int 0), (2, .int x1)] := (congrArg (fun z9 => lv_has ls1 6 [(3, .int z9), (0, .ref (mm 0)), (1, .int 0), (2, .int x1)]) hq9).mpr hl1
      clear hq9
      refine lv_iconst (v := 0) hx hb dX7_number_20 (by decide) ?_
      refine lv_istore (lv' := [(4, .int 0), (3, .int 1), (0, .ref (mm 0)), (1, .int 0), (2, .int x1)]) hx hb dX7_number_21 hl1 (by decide) rfl (fun ls2 hl2 => ?_)
      clear hl1 ls1
      refine lv_aload_n hx hb dX7_number_23 rfl (lv_at hl2 2 rfl) ?_
      refine va_get (D := D) (ci := 7) (v := .int (nI (rq.2))) (C := RX7) (T := TX7) (N := 23) hx hb hw iX7 hown hK hP2 0 rfl rfl 7 (by decide) (hw _ kw_4_71) (fun _ h9 => h9) rfl dX7_number_24 ?_
      refine lv_istore (lv' := [(5, .int (nI (rq.2))), (4, .int 0), (3, .int 1), (0, .ref (mm 0)), (1, .int 0), (2, .int x1)]) hx hb dX7_number_27 hl2 (by decide) rfl (fun ls3 hl3 => ?_)
      clear hl2 ls2
      have hq9 : nI (rq.2 + 0) = nI (rq.2) := rfl
      replace hl3 : lv_has ls3 6 [(5, .int (nI (rq.2 + 0))), (4, .int 0), (3, .int 1), (0, .ref (mm 0)), (1, .int 0), (2, .int x1)] := (congrArg (fun z9 => lv_has ls3 6 [(5, .int z9), (4, .int 0), (3, .int 1), (0, .ref (mm 0)), (1, .int 0), (2, .int x1)]) hq9).mpr hl3
      clear hq9
      have hq9 : nI (nvR T (rq.2) 0) = 0 := rfl
      replace hl3 : lv_has ls3 6 [(5, .int (nI (rq.2 + 0))), (4, .int (nI (nvR T (rq.2) 0))), (3, .int 1), (0, .ref (mm 0)), (1, .int 0), (2, .int x1)] := (congrArg (fun z9 => lv_has ls3 6 [(5, .int (nI (rq.2 + 0))), (4, .int z9), (3, .int 1), (0, .ref (mm 0)), (1, .int 0), (2, .int x1)]) hq9).mpr hl3
      clear hq9
      refine wlp (ι := Nat) (nL := 6) (fun x9 => (rq.2 + x9 ≤ te T n (rq.2))) (fun x9 => [mO cy mm ik (nI n) (nI (rq.2)) (nI (te T n (rq.2))) vl (b2i (rq.1 = true)) rm rr om, ia cy (mm 5) 120 T]) (fun x9 => [(5, .int (nI (rq.2 + x9))), (4, .int (nI (nvR T (rq.2) x9))), (3, .int 1), (0, .ref (mm 0)), (1, .int 0), (2, .int x1)]) (fun x9 => []) (fun x9 => te T n (rq.2) - (rq.2 + x9)) 29 ?_ 0 (hte.1) rfl hP2 hD2 hS2 (lv_sub hl3 [0, 1, 2, 3, 4, 5] rfl)
      clear hP2 hD2 hS2 locs2 H2 hl3 ls3
      intro x9 hI ih_29 H3 locs3 ls4 hP3 hD3 hS3 hl4
      obtain ⟨i, rfl⟩ : ∃ z9, z9 = x9 := ⟨_, rfl⟩
      have hi := hI
      replace hi : rq.2 + i ≤ te T n (rq.2) := hi
      replace hP3 : va_P D vwCl ([mO cy mm ik (nI n) (nI (rq.2)) (nI (te T n (rq.2))) vl (b2i (rq.1 = true)) rm rr om, ia cy (mm 5) 120 T]) H3 := hP3
      replace hD3 : va_D (va_A _ sz) ([mO cy mm ik (nI n) (nI (rq.2)) (nI (te T n (rq.2))) vl (b2i (rq.1 = true)) rm rr om, ia cy (mm 5) 120 T]) := hD3
      replace hl4 : lv_has ls4 6 [(5, .int (nI (rq.2 + i))), (4, .int (nI (nvR T (rq.2) i))), (3, .int 1), (0, .ref (mm 0)), (1, .int 0), (2, .int x1)] := hl4
      show W p l e _ s m _ below meth c _ _ _ _ _ (F0 m 29 ls4 [])
      refine lv_iload hx hb dX7_number_29 (lv_at hl4 0 rfl) ?_
      refine lv_aload_n hx hb dX7_number_31 rfl (lv_at hl4 3 rfl) ?_
      refine va_get (D := D) (ci := 7) (v := .int (nI (te T n (rq.2)))) (C := RX7) (T := TX7) (N := 23) hx hb hw iX7 hown hK hP3 0 rfl rfl 8 (by decide) (hw _ kw_4_72) (fun _ h9 => h9) rfl dX7_number_32 ?_
      refine ln_ge (tgt := 79) (rq.2 + i) (te T n (rq.2)) rfl rfl (by omega) (by omega) hx hb dX7_number_35 (by decide) (fun c_35 => ?_) (fun c_35 => ?_)
      · have hie : te T n (rq.2) - rq.2 = i := by omega
        have hok9 := ok_R (T := T) (n := n) (s := rq.2) hm hdi
        rw [hie] at hok9
        have hnl9 : nvR T (rq.2) i ≤ 9999 := nvR_le (n := n) i (fun j9 a9 b9 => te_D_in hdi j9 a9 (by omega))
        refine lv_aload_n hx hb dX7_number_79 rfl (lv_at hl4 3 rfl) ?_
        refine lv_iload hx hb dX7_number_80 (lv_at hl4 1 rfl) ?_
        refine pt (D := D) (ci := 7) (v := .int (nI (nvR T (rq.2) i))) (ty := .int) (C := RX7) (T := TX7) (N := 23) (ws' := [mO cy mm ik (nI n) (nI (rq.2)) (nI (te T n (rq.2))) (nI (nvR T (rq.2) i)) (b2i (rq.1 = true)) rm rr om, ia cy (mm 5) 120 T]) hx hb hw iX7 tyX7 tyX7_ok nmX7 hown hK hP3 hD3 hS3 0 rfl rfl 9 (by decide) kw_4_73 (fun _ h9 => h9) rfl (by decide +kernel) rfl rfl (Nat.le_of_ble_eq_true rfl) rfl dX7_number_82 (fun H4 locs4 hP4 hD4 hS4 => ?_)
        clear hP3 hD3 hS3 locs3 H3
        refine lv_aload_n hx hb dX7_number_85 rfl (lv_at hl4 3 rfl) ?_
        refine lv_iload_n hx hb dX7_number_86 rfl (lv_at hl4 2 rfl) ?_
        refine lv_if_eq (tgt := 107) hx hb dX7_number_87 (by decide) (fun c => absurd c (by decide)) (fun _ => ?_)
        refine lv_iload hx hb dX7_number_90 (lv_at hl4 1 rfl) ?_
        refine lv_i2l hx hb dX7_number_92 rfl ?_
        refine lv_iload_n hx hb dX7_number_93 rfl (lv_at hl4 4 rfl) ?_
        refine lv_i2l hx hb dX7_number_94 rfl ?_
        refine lv_iload_n hx hb dX7_number_95 rfl (lv_at hl4 5 rfl) ?_
        refine lv_i2l hx hb dX7_number_96 rfl ?_
        refine rT_i (wc := []) (rest := [.ref (mm 0)]) hx hb hml hown hw hG hK hP4 hS4 hA hl4 kc_X7_in kw_4_153 [.long ((nI (nvR T (rq.2) i)).toInt64), .long ((0 : Int32).toInt64), .long x1.toInt64] (c_X7_in l D cy G H4.size ((nI (nvR T (rq.2) i)).toInt64) ((0 : Int32).toInt64) x1.toInt64) [] rfl rfl rfl (Nat.le_of_ble_eq_true rfl) ⟨Nat.le_of_ble_eq_true rfl, Nat.le_of_ble_eq_true rfl⟩ dX7_number_97 ⟨Nat.le_of_ble_eq_true rfl, Nat.le_of_ble_eq_true rfl⟩ (fun r_97 H5 locs5 hr_97 hP5 hS5 => ?_)
        have hD5 := hD4
        clear hP4 hD4 hS4 locs4 H4
        subst hr_97
        refine tp (show (b2i (((0 : Int32).toInt64) ≤ ((nI (nvR T (rq.2) i)).toInt64) ∧ ((nI (nvR T (rq.2) i)).toInt64) ≤ x1.toInt64)) = b2i (0 ≤ nI (nvR T (rq.2) i) ∧ nI (nvR T (rq.2) i) ≤ x1) from b2i_iff (in_c (by decide) rfl)) ?_
        refine lb_eq (tgt := 107) hx hb dX7_number_100 (by decide) (fun c_100 => ?_) (fun c_100 => ?_)
        · refine lv_iconst (v := 0) hx hb dX7_number_107 (by decide) ?_
          refine tp (show (0) = b2i (decide (okN T n (rq.2) x1) = true) from (b2i_f (fun z9 => c_100 (hok9.mpr (of_decide_eq_true z9)))).symm) ?_
          refine cV_v (wc := [mO cy mm ik (nI n) (nI (rq.2)) (nI (te T n (rq.2))) (nI (nvR T (rq.2) i)) (b2i (rq.1 = true)) rm rr om, ia cy (mm 5) 120 T]) (wr := []) (rest := []) hx hb hml hown hw hG hK hP5 hD5 hS5 hA hl4 kc_X7_needs kw_5_29 [.int (b2i (decide (okN T n (rq.2) x1) = true))] (c_X7_needs l D cy G H5.size mm ik (nI (nvR T (rq.2) i)) rm rr om n T rq (decide (okN T n (rq.2) x1)) (by first | omega | assumption) (by first | omega | assumption)) [0, 1] [] rfl rfl rfl rfl rfl 0 rfl rfl rfl rfl rfl (Nat.le_of_ble_eq_true rfl) ⟨Nat.le_of_ble_eq_true rfl, Nat.le_of_ble_eq_true rfl⟩ dX7_number_108 ⟨Nat.le_of_ble_eq_true rfl, Nat.le_of_ble_eq_true rfl⟩ (fun u9 H6 locs6 hu9 hP6 hD6 hS6 => ?_)
          clear hP5 hD5 hS5 locs5 H5
          replace hP6 : va_P D vwCl ([mO cy mm ik (nI n) (nI ((ndR T n (decide (okN T n (rq.2) x1)) rq).2)) (nI (te T n ((ndR T n (decide (okN T n (rq.2) x1)) rq).2))) (nI (nvR T (rq.2) i)) (b2i ((ndR T n (decide (okN T n (rq.2) x1)) rq).1 = true)) rm rr om, ia cy (mm 5) 120 T]) H6 := hP6
          replace hD6 : va_D (va_A _ sz) ([mO cy mm ik (nI n) (nI ((ndR T n (decide (okN T n (rq.2) x1)) rq).2)) (nI (te T n ((ndR T n (decide (okN T n (rq.2) x1)) rq).2))) (nI (nvR T (rq.2) i)) (b2i ((ndR T n (decide (okN T n (rq.2) x1)) rq).1 = true)) rm rr om, ia cy (mm 5) 120 T]) := hD6
          have hp9 : ndR T n (decide (okN T n (rq.2) x1)) rq = (nmR T n x1 rq) := nm_g c_4
          have hq9 : ([mO cy mm ik (nI n) (nI ((ndR T n (decide (okN T n (rq.2) x1)) rq).2)) (nI (te T n ((ndR T n (decide (okN T n (rq.2) x1)) rq).2))) (nI (nvR T (rq.2) i)) (b2i ((ndR T n (decide (okN T n (rq.2) x1)) rq).1 = true)) rm rr om, ia cy (mm 5) 120 T]) = ([mO cy mm ik (nI n) (nI ((nmR T n x1 rq).2)) (nI (te T n ((ndR T n (decide (okN T n (rq.2) x1)) rq).2))) (nI (nvR T (rq.2) i)) (b2i ((ndR T n (decide (okN T n (rq.2) x1)) rq).1 = true)) rm rr om, ia cy (mm 5) 120 T]) := congrArg (fun z9 => [mO cy mm ik (nI n) z9 (nI (te T n ((ndR T n (decide (okN T n (rq.2) x1)) rq).2))) (nI (nvR T (rq.2) i)) (b2i ((ndR T n (decide (okN T n (rq.2) x1)) rq).1 = true)) rm rr om, ia cy (mm 5) 120 T]) (show (nI ((ndR T n (decide (okN T n (rq.2) x1)) rq).2)) = (nI ((nmR T n x1 rq).2)) from congrArg (fun z9 : Bool × Nat => nI (z9.2)) hp9)
          replace hP6 := (congrArg (fun z9 => va_P D vwCl z9 _) hq9).mp hP6
          replace hD6 := (congrArg (fun z9 => va_D _ z9) hq9).mp hD6
          clear hq9
          have hq9 : ([mO cy mm ik (nI n) (nI ((nmR T n x1 rq).2)) (nI (te T n ((ndR T n (decide (okN T n (rq.2) x1)) rq).2))) (nI (nvR T (rq.2) i)) (b2i ((ndR T n (decide (okN T n (rq.2) x1)) rq).1 = true)) rm rr om, ia cy (mm 5) 120 T]) = ([mO cy mm ik (nI n) (nI ((nmR T n x1 rq).2)) (nI (te T n ((nmR T n x1 rq).2))) (nI (nvR T (rq.2) i)) (b2i ((ndR T n (decide (okN T n (rq.2) x1)) rq).1 = true)) rm rr om, ia cy (mm 5) 120 T]) := congrArg (fun z9 => [mO cy mm ik (nI n) (nI ((nmR T n x1 rq).2)) z9 (nI (nvR T (rq.2) i)) (b2i ((ndR T n (decide (okN T n (rq.2) x1)) rq).1 = true)) rm rr om, ia cy (mm 5) 120 T]) (show (nI (te T n ((ndR T n (decide (okN T n (rq.2) x1)) rq).2))) = (nI (te T n ((nmR T n x1 rq).2))) from congrArg (fun z9 : Bool × Nat => nI (te T n (z9.2))) hp9)
          replace hP6 := (congrArg (fun z9 => va_P D vwCl z9 _) hq9).mp hP6
          replace hD6 := (congrArg (fun z9 => va_D _ z9) hq9).mp hD6
          clear hq9
          have hq9 : ([mO cy mm ik (nI n) (nI ((nmR T n x1 rq).2)) (nI (te T n ((nmR T n x1 rq).2))) (nI (nvR T (rq.2) i)) (b2i ((ndR T n (decide (okN T n (rq.2) x1)) rq).1 = true)) rm rr om, ia cy (mm 5) 120 T]) = ([mO cy mm ik (nI n) (nI ((nmR T n x1 rq).2)) (nI (te T n ((nmR T n x1 rq).2))) (nI (nvR T (rq.2) i)) (b2i ((nmR T n x1 rq).1 = true)) rm rr om, ia cy (mm 5) 120 T]) := congrArg (fun z9 => [mO cy mm ik (nI n) (nI ((nmR T n x1 rq).2)) (nI (te T n ((nmR T n x1 rq).2))) (nI (nvR T (rq.2) i)) z9 rm rr om, ia cy (mm 5) 120 T]) (show (b2i ((ndR T n (decide (okN T n (rq.2) x1)) rq).1 = true)) = (b2i ((nmR T n x1 rq).1 = true)) from congrArg (fun z9 : Bool × Nat => b2i (z9.1 = true)) hp9)
          replace hP6 := (congrArg (fun z9 => va_P D vwCl z9 _) hq9).mp hP6
          replace hD6 := (congrArg (fun z9 => va_D _ z9) hq9).mp hD6
          clear hq9
          clear hp9
          refine re_v (nI (nvR T (rq.2) i)) hx hb hr hlocks hP6 hD6 hS6 dX7_number_111 ?_
          exact (fun z9 => by rw [← numV_eq hm (nm_ok z9).2.2, hie])
        · refine lv_iconst (v := 1) hx hb dX7_number_103 (by decide) ?_
          refine lv_goto (tgt := 108) hx hb dX7_number_104 (by decide) ?_
          refine tp (show (1) = b2i (decide (okN T n (rq.2) x1) = true) from (b2i_t (decide_eq_true (hok9.mp c_100))).symm) ?_
          refine cV_v (wc := [mO cy mm ik (nI n) (nI (rq.2)) (nI (te T n (rq.2))) (nI (nvR T (rq.2) i)) (b2i (rq.1 = true)) rm rr om, ia cy (mm 5) 120 T]) (wr := []) (rest := []) hx hb hml hown hw hG hK hP5 hD5 hS5 hA hl4 kc_X7_needs kw_5_29 [.int (b2i (decide (okN T n (rq.2) x1) = true))] (c_X7_needs l D cy G H5.size mm ik (nI (nvR T (rq.2) i)) rm rr om n T rq (decide (okN T n (rq.2) x1)) (by first | omega | assumption) (by first | omega | assumption)) [0, 1] [] rfl rfl rfl rfl rfl 0 rfl rfl rfl rfl rfl (Nat.le_of_ble_eq_true rfl) ⟨Nat.le_of_ble_eq_true rfl, Nat.le_of_ble_eq_true rfl⟩ dX7_number_108 ⟨Nat.le_of_ble_eq_true rfl, Nat.le_of_ble_eq_true rfl⟩ (fun u9 H6 locs6 hu9 hP6 hD6 hS6 => ?_)
          clear hP5 hD5 hS5 locs5 H5
          replace hP6 : va_P D vwCl ([mO cy mm ik (nI n) (nI ((ndR T n (decide (okN T n (rq.2) x1)) rq).2)) (nI (te T n ((ndR T n (decide (okN T n (rq.2) x1)) rq).2))) (nI (nvR T (rq.2) i)) (b2i ((ndR T n (decide (okN T n (rq.2) x1)) rq).1 = true)) rm rr om, ia cy (mm 5) 120 T]) H6 := hP6
          replace hD6 : va_D (va_A _ sz) ([mO cy mm ik (nI n) (nI ((ndR T n (decide (okN T n (rq.2) x1)) rq).2)) (nI (te T n ((ndR T n (decide (okN T n (rq.2) x1)) rq).2))) (nI (nvR T (rq.2) i)) (b2i ((ndR T n (decide (okN T n (rq.2) x1)) rq).1 = true)) rm rr om, ia cy (mm 5) 120 T]) := hD6
          have hp9 : ndR T n (decide (okN T n (rq.2) x1)) rq = (nmR T n x1 rq) := nm_g c_4
          have hq9 : ([mO cy mm ik (nI n) (nI ((ndR T n (decide (okN T n (rq.2) x1)) rq).2)) (nI (te T n ((ndR T n (decide (okN T n (rq.2) x1)) rq).2))) (nI (nvR T (rq.2) i)) (b2i ((ndR T n (decide (okN T n (rq.2) x1)) rq).1 = true)) rm rr om, ia cy (mm 5) 120 T]) = ([mO cy mm ik (nI n) (nI ((nmR T n x1 rq).2)) (nI (te T n ((ndR T n (decide (okN T n (rq.2) x1)) rq).2))) (nI (nvR T (rq.2) i)) (b2i ((ndR T n (decide (okN T n (rq.2) x1)) rq).1 = true)) rm rr om, ia cy (mm 5) 120 T]) := congrArg (fun z9 => [mO cy mm ik (nI n) z9 (nI (te T n ((ndR T n (decide (okN T n (rq.2) x1)) rq).2))) (nI (nvR T (rq.2) i)) (b2i ((ndR T n (decide (okN T n (rq.2) x1)) rq).1 = true)) rm rr om, ia cy (mm 5) 120 T]) (show (nI ((ndR T n (decide (okN T n (rq.2) x1)) rq).2)) = (nI ((nmR T n x1 rq).2)) from congrArg (fun z9 : Bool × Nat => nI (z9.2)) hp9)
          replace hP6 := (congrArg (fun z9 => va_P D vwCl z9 _) hq9).mp hP6
          replace hD6 := (congrArg (fun z9 => va_D _ z9) hq9).mp hD6
          clear hq9
          have hq9 : ([mO cy mm ik (nI n) (nI ((nmR T n x1 rq).2)) (nI (te T n ((ndR T n (decide (okN T n (rq.2) x1)) rq).2))) (nI (nvR T (rq.2) i)) (b2i ((ndR T n (decide (okN T n (rq.2) x1)) rq).1 = true)) rm rr om, ia cy (mm 5) 120 T]) = ([mO cy mm ik (nI n) (nI ((nmR T n x1 rq).2)) (nI (te T n ((nmR T n x1 rq).2))) (nI (nvR T (rq.2) i)) (b2i ((ndR T n (decide (okN T n (rq.2) x1)) rq).1 = true)) rm rr om, ia cy (mm 5) 120 T]) := congrArg (fun z9 => [mO cy mm ik (nI n) (nI ((nmR T n x1 rq).2)) z9 (nI (nvR T (rq.2) i)) (b2i ((ndR T n (decide (okN T n (rq.2) x1)) rq).1 = true)) rm rr om, ia cy (mm 5) 120 T]) (show (nI (te T n ((ndR T n (decide (okN T n (rq.2) x1)) rq).2))) = (nI (te T n ((nmR T n x1 rq).2))) from congrArg (fun z9 : Bool × Nat => nI (te T n (z9.2))) hp9)
          replace hP6 := (congrArg (fun z9 => va_P D vwCl z9 _) hq9).mp hP6
          replace hD6 := (congrArg (fun z9 => va_D _ z9) hq9).mp hD6
          clear hq9
          have hq9 : ([mO cy mm ik (nI n) (nI ((nmR T n x1 rq).2)) (nI (te T n ((nmR T n x1 rq).2))) (nI (nvR T (rq.2) i)) (b2i ((ndR T n (decide (okN T n (rq.2) x1)) rq).1 = true)) rm rr om, ia cy (mm 5) 120 T]) = ([mO cy mm ik (nI n) (nI ((nmR T n x1 rq).2)) (nI (te T n ((nmR T n x1 rq).2))) (nI (nvR T (rq.2) i)) (b2i ((nmR T n x1 rq).1 = true)) rm rr om, ia cy (mm 5) 120 T]) := congrArg (fun z9 => [mO cy mm ik (nI n) (nI ((nmR T n x1 rq).2)) (nI (te T n ((nmR T n x1 rq).2))) (nI (nvR T (rq.2) i)) z9 rm rr om, ia cy (mm 5) 120 T]) (show (b2i ((ndR T n (decide (okN T n (rq.2) x1)) rq).1 = true)) = (b2i ((nmR T n x1 rq).1 = true)) from congrArg (fun z9 : Bool × Nat => b2i (z9.1 = true)) hp9)
          replace hP6 := (congrArg (fun z9 => va_P D vwCl z9 _) hq9).mp hP6
          replace hD6 := (congrArg (fun z9 => va_D _ z9) hq9).mp hD6
          clear hq9
          clear hp9
          refine re_v (nI (nvR T (rq.2) i)) hx hb hr hlocks hP6 hD6 hS6 dX7_number_111 ?_
          exact (fun z9 => by rw [← numV_eq hm (nm_ok z9).2.2, hie])
      · refine lv_iload_n hx hb dX7_number_38 rfl (lv_at hl4 2 rfl) ?_
        refine lv_if_eq (tgt := 79) hx hb dX7_number_39 (by decide) (fun c => absurd c (by decide)) (fun _ => ?_)
        have hdi9 := te_D_in hdi (rq.2 + i) (by omega) c_35
        have hdg9 := dg_9 hdi9
        have hnl9 : nvR T (rq.2) i ≤ 9999 := nvR_le (n := n) i (fun j9 a9 b9 => te_D_in hdi j9 a9 (by omega))
        refine lv_iload hx hb dX7_number_42 (lv_at hl4 1 rfl) ?_
        refine lv_sipush (v := 999) hx hb dX7_number_44 (by decide) ?_
        refine ln_le (tgt := 55) (nvR T (rq.2) i) 999 rfl rfl (by omega) (by omega) hx hb dX7_number_47 (by decide) (fun c_47 => ?_) (fun c_47 => ?_)
        · refine lv_bipush (v := 10) hx hb dX7_number_55 (by decide) ?_
          refine lv_iload hx hb dX7_number_57 (lv_at hl4 1 rfl) ?_
          refine lv_imul hx hb dX7_number_59 ?_
          refine tp (show (10 * (nI (nvR T (rq.2) i))) = nI (10 * (nvR T (rq.2) i)) from pk_mul _ _) ?_
          refine lv_aload_n hx hb dX7_number_60 rfl (lv_at hl4 3 rfl) ?_
          refine va_get (D := D) (ci := 7) (v := .ref (mm 5)) (C := RX7) (T := TX7) (N := 23) hx hb hw iX7 hown hK hP3 0 rfl rfl 5 (by decide) (hw _ kw_4_69) (fun _ h9 => h9) rfl dX7_number_61 ?_
          refine lv_iload hx hb dX7_number_64 (lv_at hl4 0 rfl) ?_
          refine ald_i (f := T) hx hb hK hP3 1 0 rfl rfl (rq.2 + i) rfl (by first | omega | assumption) (by decide) dX7_number_66 ?_
          refine tp (show (T (rq.2 + i)) = nI (dg T (rq.2 + i) + 48) from hdg9.2.1) ?_
          refine lv_iadd hx hb dX7_number_67 ?_
          refine tp (show ((nI (10 * (nvR T (rq.2) i))) + (nI (dg T (rq.2 + i) + 48))) = nI (10 * (nvR T (rq.2) i) + dg T (rq.2 + i) + 48) from nI_add _ _) ?_
          refine lv_bipush (v := 48) hx hb dX7_number_68 (by decide) ?_
          refine lv_isub hx hb dX7_number_70 ?_
          refine tp (show ((nI (10 * (nvR T (rq.2) i) + dg T (rq.2 + i) + 48)) - 48) = nI (10 * nvR T (rq.2) i + dg T (rq.2 + i)) from (pk_sub (b := 48) (by omega)).trans (congrArg nI (by omega))) ?_
          refine lv_istore (lv' := [(4, .int (nI (10 * nvR T (rq.2) i + dg T (rq.2 + i)))), (5, .int (nI (rq.2 + i))), (3, .int 1), (0, .ref (mm 0)), (1, .int 0), (2, .int x1)]) hx hb dX7_number_71 hl4 (by decide) rfl (fun ls5 hl5 => ?_)
          clear hl4 ls4
          have hq9 : nI (nvR T (rq.2) (i + 1)) = nI (10 * nvR T (rq.2) i + dg T (rq.2 + i)) := congrArg nI (if_neg (by omega))
          replace hl5 : lv_has ls5 6 [(4, .int (nI (nvR T (rq.2) (i + 1)))), (5, .int (nI (rq.2 + i))), (3, .int 1), (0, .ref (mm 0)), (1, .int 0), (2, .int x1)] := (congrArg (fun z9 => lv_has ls5 6 [(4, .int z9), (5, .int (nI (rq.2 + i))), (3, .int 1), (0, .ref (mm 0)), (1, .int 0), (2, .int x1)]) hq9).mpr hl5
          clear hq9
          refine lv_iinc (v := nI (rq.2 + i + 1)) (lv' := [(5, .int (nI (rq.2 + i + 1))), (4, .int (nI (nvR T (rq.2) (i + 1)))), (3, .int 1), (0, .ref (mm 0)), (1, .int 0), (2, .int x1)]) hx hb dX7_number_73 hl5 (k := 1) rfl (nI_inc _) (by decide) rfl (fun ls6 hl6 => ?_)
          clear hl5 ls5
          refine lv_goto (tgt := 29) hx hb dX7_number_76 (by decide) ?_
          exact ih_29 (i + 1) ((by (try dsimp only); omega)) (by (try dsimp only); omega) H3 locs3 ls6 hP3 hD3 hS3 (lv_sub hl6 [0, 1, 2, 3, 4, 5] rfl)
        · refine lv_iload hx hb dX7_number_50 (lv_at hl4 1 rfl) ?_
          refine lv_goto (tgt := 71) hx hb dX7_number_52 (by decide) ?_
          refine lv_istore (lv' := [(4, .int (nI (nvR T (rq.2) i))), (5, .int (nI (rq.2 + i))), (3, .int 1), (0, .ref (mm 0)), (1, .int 0), (2, .int x1)]) hx hb dX7_number_71 hl4 (by decide) rfl (fun ls5 hl5 => ?_)
          clear hl4 ls4
          have hq9 : nI (nvR T (rq.2) (i + 1)) = nI (nvR T (rq.2) i) := congrArg nI (if_pos (by omega))
          replace hl5 : lv_has ls5 6 [(4, .int (nI (nvR T (rq.2) (i + 1)))), (5, .int (nI (rq.2 + i))), (3, .int 1), (0, .ref (mm 0)), (1, .int 0), (2, .int x1)] := (congrArg (fun z9 => lv_has ls5 6 [(4, .int z9), (5, .int (nI (rq.2 + i))), (3, .int 1), (0, .ref (mm 0)), (1, .int 0), (2, .int x1)]) hq9).mpr hl5
          clear hq9
          refine lv_iinc (v := nI (rq.2 + i + 1)) (lv' := [(5, .int (nI (rq.2 + i + 1))), (4, .int (nI (nvR T (rq.2) (i + 1)))), (3, .int 1), (0, .ref (mm 0)), (1, .int 0), (2, .int x1)]) hx hb dX7_number_73 hl5 (k := 1) rfl (nI_inc _) (by decide) rfl (fun ls6 hl6 => ?_)
          clear hl5 ls5
          refine lv_goto (tgt := 29) hx hb dX7_number_76 (by decide) ?_
          exact ih_29 (i + 1) ((by (try dsimp only); omega)) (by (try dsimp only); omega) H3 locs3 ls6 hP3 hD3 hS3 (lv_sub hl6 [0, 1, 2, 3, 4, 5] rfl)
    · have h9hdi := hdi
      have hq9 : 0 = b2i (48 ≤ (bt T n rq.2) ∧ (bt T n rq.2) ≤ 57) := (b2i_f hdi).symm
      replace hl1 : lv_has ls1 6 [(3, .int 0), (0, .ref (mm 0)), (1, .int 0), (2, .int x1)] := (congrArg (fun z9 => lv_has ls1 6 [(3, .int z9), (0, .ref (mm 0)), (1, .int 0), (2, .int x1)]) hq9).mpr hl1
      clear hq9
      refine lv_iconst (v := 0) hx hb dX7_number_20 (by decide) ?_
      refine lv_istore (lv' := [(4, .int 0), (3, .int 0), (0, .ref (mm 0)), (1, .int 0), (2, .int x1)]) hx hb dX7_number_21 hl1 (by decide) rfl (fun ls2 hl2 => ?_)
      clear hl1 ls1
      refine lv_aload_n hx hb dX7_number_23 rfl (lv_at hl2 2 rfl) ?_
      refine va_get (D := D) (ci := 7) (v := .int (nI (rq.2))) (C := RX7) (T := TX7) (N := 23) hx hb hw iX7 hown hK hP2 0 rfl rfl 7 (by decide) (hw _ kw_4_71) (fun _ h9 => h9) rfl dX7_number_24 ?_
      refine lv_istore (lv' := [(5, .int (nI (rq.2))), (4, .int 0), (3, .int 0), (0, .ref (mm 0)), (1, .int 0), (2, .int x1)]) hx hb dX7_number_27 hl2 (by decide) rfl (fun ls3 hl3 => ?_)
      clear hl2 ls2
      refine lv_iload hx hb dX7_number_29 (lv_at hl3 0 rfl) ?_
      refine lv_aload_n hx hb dX7_number_31 rfl (lv_at hl3 3 rfl) ?_
      refine va_get (D := D) (ci := 7) (v := .int (nI (te T n (rq.2)))) (C := RX7) (T := TX7) (N := 23) hx hb hw iX7 hown hK hP2 0 rfl rfl 8 (by decide) (hw _ kw_4_72) (fun _ h9 => h9) rfl dX7_number_32 ?_
      refine ln_ge (tgt := 79) rq.2 (te T n (rq.2)) rfl rfl (by omega) (by omega) hx hb dX7_number_35 (by decide) (fun c_35 => ?_) (fun c_35 => ?_)
      · refine lv_aload_n hx hb dX7_number_79 rfl (lv_at hl3 3 rfl) ?_
        refine lv_iload hx hb dX7_number_80 (lv_at hl3 1 rfl) ?_
        refine pt (D := D) (ci := 7) (v := .int 0) (ty := .int) (C := RX7) (T := TX7) (N := 23) (ws' := [mO cy mm ik (nI n) (nI (rq.2)) (nI (te T n (rq.2))) 0 (b2i (rq.1 = true)) rm rr om, ia cy (mm 5) 120 T]) hx hb hw iX7 tyX7 tyX7_ok nmX7 hown hK hP2 hD2 hS2 0 rfl rfl 9 (by decide) kw_4_73 (fun _ h9 => h9) rfl (by decide +kernel) rfl rfl (Nat.le_of_ble_eq_true rfl) rfl dX7_number_82 (fun H3 locs3 hP3 hD3 hS3 => ?_)
        clear hP2 hD2 hS2 locs2 H2
        refine lv_aload_n hx hb dX7_number_85 rfl (lv_at hl3 3 rfl) ?_
        refine lv_iload_n hx hb dX7_number_86 rfl (lv_at hl3 2 rfl) ?_
        refine lv_if_eq (tgt := 107) hx hb dX7_number_87 (by decide) (fun _ => ?_) (fun c => absurd (by decide) c)
        refine lv_iconst (v := 0) hx hb dX7_number_107 (by decide) ?_
        refine tp (show (0) = b2i (decide (okN T n (rq.2) x1) = true) from (b2i_f (fun z9 => hdi (of_decide_eq_true z9).1)).symm) ?_
        refine cV_v (wc := [mO cy mm ik (nI n) (nI (rq.2)) (nI (te T n (rq.2))) 0 (b2i (rq.1 = true)) rm rr om, ia cy (mm 5) 120 T]) (wr := []) (rest := []) hx hb hml hown hw hG hK hP3 hD3 hS3 hA hl3 kc_X7_needs kw_5_29 [.int (b2i (decide (okN T n (rq.2) x1) = true))] (c_X7_needs l D cy G H3.size mm ik 0 rm rr om n T rq (decide (okN T n (rq.2) x1)) (by first | omega | assumption) (by first | omega | assumption)) [0, 1] [] rfl rfl rfl rfl rfl 0 rfl rfl rfl rfl rfl (Nat.le_of_ble_eq_true rfl) ⟨Nat.le_of_ble_eq_true rfl, Nat.le_of_ble_eq_true rfl⟩ dX7_number_108 ⟨Nat.le_of_ble_eq_true rfl, Nat.le_of_ble_eq_true rfl⟩ (fun u9 H4 locs4 hu9 hP4 hD4 hS4 => ?_)
        clear hP3 hD3 hS3 locs3 H3
        replace hP4 : va_P D vwCl ([mO cy mm ik (nI n) (nI ((ndR T n (decide (okN T n (rq.2) x1)) rq).2)) (nI (te T n ((ndR T n (decide (okN T n (rq.2) x1)) rq).2))) 0 (b2i ((ndR T n (decide (okN T n (rq.2) x1)) rq).1 = true)) rm rr om, ia cy (mm 5) 120 T]) H4 := hP4
        replace hD4 : va_D (va_A _ sz) ([mO cy mm ik (nI n) (nI ((ndR T n (decide (okN T n (rq.2) x1)) rq).2)) (nI (te T n ((ndR T n (decide (okN T n (rq.2) x1)) rq).2))) 0 (b2i ((ndR T n (decide (okN T n (rq.2) x1)) rq).1 = true)) rm rr om, ia cy (mm 5) 120 T]) := hD4
        have hp9 : ndR T n (decide (okN T n (rq.2) x1)) rq = (nmR T n x1 rq) := nm_g c_4
        have hq9 : ([mO cy mm ik (nI n) (nI ((ndR T n (decide (okN T n (rq.2) x1)) rq).2)) (nI (te T n ((ndR T n (decide (okN T n (rq.2) x1)) rq).2))) 0 (b2i ((ndR T n (decide (okN T n (rq.2) x1)) rq).1 = true)) rm rr om, ia cy (mm 5) 120 T]) = ([mO cy mm ik (nI n) (nI ((nmR T n x1 rq).2)) (nI (te T n ((ndR T n (decide (okN T n (rq.2) x1)) rq).2))) 0 (b2i ((ndR T n (decide (okN T n (rq.2) x1)) rq).1 = true)) rm rr om, ia cy (mm 5) 120 T]) := congrArg (fun z9 => [mO cy mm ik (nI n) z9 (nI (te T n ((ndR T n (decide (okN T n (rq.2) x1)) rq).2))) 0 (b2i ((ndR T n (decide (okN T n (rq.2) x1)) rq).1 = true)) rm rr om, ia cy (mm 5) 120 T]) (show (nI ((ndR T n (decide (okN T n (rq.2) x1)) rq).2)) = (nI ((nmR T n x1 rq).2)) from congrArg (fun z9 : Bool × Nat => nI (z9.2)) hp9)
        replace hP4 := (congrArg (fun z9 => va_P D vwCl z9 _) hq9).mp hP4
        replace hD4 := (congrArg (fun z9 => va_D _ z9) hq9).mp hD4
        clear hq9
        have hq9 : ([mO cy mm ik (nI n) (nI ((nmR T n x1 rq).2)) (nI (te T n ((ndR T n (decide (okN T n (rq.2) x1)) rq).2))) 0 (b2i ((ndR T n (decide (okN T n (rq.2) x1)) rq).1 = true)) rm rr om, ia cy (mm 5) 120 T]) = ([mO cy mm ik (nI n) (nI ((nmR T n x1 rq).2)) (nI (te T n ((nmR T n x1 rq).2))) 0 (b2i ((ndR T n (decide (okN T n (rq.2) x1)) rq).1 = true)) rm rr om, ia cy (mm 5) 120 T]) := congrArg (fun z9 => [mO cy mm ik (nI n) (nI ((nmR T n x1 rq).2)) z9 0 (b2i ((ndR T n (decide (okN T n (rq.2) x1)) rq).1 = true)) rm rr om, ia cy (mm 5) 120 T]) (show (nI (te T n ((ndR T n (decide (okN T n (rq.2) x1)) rq).2))) = (nI (te T n ((nmR T n x1 rq).2))) from congrArg (fun z9 : Bool × Nat => nI (te T n (z9.2))) hp9)
        replace hP4 := (congrArg (fun z9 => va_P D vwCl z9 _) hq9).mp hP4
        replace hD4 := (congrArg (fun z9 => va_D _ z9) hq9).mp hD4
        clear hq9
        have hq9 : ([mO cy mm ik (nI n) (nI ((nmR T n x1 rq).2)) (nI (te T n ((nmR T n x1 rq).2))) 0 (b2i ((ndR T n (decide (okN T n (rq.2) x1)) rq).1 = true)) rm rr om, ia cy (mm 5) 120 T]) = ([mO cy mm ik (nI n) (nI ((nmR T n x1 rq).2)) (nI (te T n ((nmR T n x1 rq).2))) 0 (b2i ((nmR T n x1 rq).1 = true)) rm rr om, ia cy (mm 5) 120 T]) := congrArg (fun z9 => [mO cy mm ik (nI n) (nI ((nmR T n x1 rq).2)) (nI (te T n ((nmR T n x1 rq).2))) 0 z9 rm rr om, ia cy (mm 5) 120 T]) (show (b2i ((ndR T n (decide (okN T n (rq.2) x1)) rq).1 = true)) = (b2i ((nmR T n x1 rq).1 = true)) from congrArg (fun z9 : Bool × Nat => b2i (z9.1 = true)) hp9)
        replace hP4 := (congrArg (fun z9 => va_P D vwCl z9 _) hq9).mp hP4
        replace hD4 := (congrArg (fun z9 => va_D _ z9) hq9).mp hD4
        clear hq9
        clear hp9
        refine re_v 0 hx hb hr hlocks hP4 hD4 hS4 dX7_number_111 ?_
        exact (fun z9 => absurd (nm_ok z9).2.1 hdi)
      · refine lv_iload_n hx hb dX7_number_38 rfl (lv_at hl3 2 rfl) ?_
        refine lv_if_eq (tgt := 79) hx hb dX7_number_39 (by decide) (fun _ => ?_) (fun c => absurd (by decide) c)
        refine lv_aload_n hx hb dX7_number_79 rfl (lv_at hl3 3 rfl) ?_
        refine lv_iload hx hb dX7_number_80 (lv_at hl3 1 rfl) ?_
        refine pt (D := D) (ci := 7) (v := .int 0) (ty := .int) (C := RX7) (T := TX7) (N := 23) (ws' := [mO cy mm ik (nI n) (nI (rq.2)) (nI (te T n (rq.2))) 0 (b2i (rq.1 = true)) rm rr om, ia cy (mm 5) 120 T]) hx hb hw iX7 tyX7 tyX7_ok nmX7 hown hK hP2 hD2 hS2 0 rfl rfl 9 (by decide) kw_4_73 (fun _ h9 => h9) rfl (by decide +kernel) rfl rfl (Nat.le_of_ble_eq_true rfl) rfl dX7_number_82 (fun H3 locs3 hP3 hD3 hS3 => ?_)
        clear hP2 hD2 hS2 locs2 H2
        refine lv_aload_n hx hb dX7_number_85 rfl (lv_at hl3 3 rfl) ?_
        refine lv_iload_n hx hb dX7_number_86 rfl (lv_at hl3 2 rfl) ?_
        refine lv_if_eq (tgt := 107) hx hb dX7_number_87 (by decide) (fun _ => ?_) (fun c => absurd (by decide) c)
        refine lv_iconst (v := 0) hx hb dX7_number_107 (by decide) ?_
        refine tp (show (0) = b2i (decide (okN T n (rq.2) x1) = true) from (b2i_f (fun z9 => hdi (of_decide_eq_true z9).1)).symm) ?_
        refine cV_v (wc := [mO cy mm ik (nI n) (nI (rq.2)) (nI (te T n (rq.2))) 0 (b2i (rq.1 = true)) rm rr om, ia cy (mm 5) 120 T]) (wr := []) (rest := []) hx hb hml hown hw hG hK hP3 hD3 hS3 hA hl3 kc_X7_needs kw_5_29 [.int (b2i (decide (okN T n (rq.2) x1) = true))] (c_X7_needs l D cy G H3.size mm ik 0 rm rr om n T rq (decide (okN T n (rq.2) x1)) (by first | omega | assumption) (by first | omega | assumption)) [0, 1] [] rfl rfl rfl rfl rfl 0 rfl rfl rfl rfl rfl (Nat.le_of_ble_eq_true rfl) ⟨Nat.le_of_ble_eq_true rfl, Nat.le_of_ble_eq_true rfl⟩ dX7_number_108 ⟨Nat.le_of_ble_eq_true rfl, Nat.le_of_ble_eq_true rfl⟩ (fun u9 H4 locs4 hu9 hP4 hD4 hS4 => ?_)
        clear hP3 hD3 hS3 locs3 H3
        replace hP4 : va_P D vwCl ([mO cy mm ik (nI n) (nI ((ndR T n (decide (okN T n (rq.2) x1)) rq).2)) (nI (te T n ((ndR T n (decide (okN T n (rq.2) x1)) rq).2))) 0 (b2i ((ndR T n (decide (okN T n (rq.2) x1)) rq).1 = true)) rm rr om, ia cy (mm 5) 120 T]) H4 := hP4
        replace hD4 : va_D (va_A _ sz) ([mO cy mm ik (nI n) (nI ((ndR T n (decide (okN T n (rq.2) x1)) rq).2)) (nI (te T n ((ndR T n (decide (okN T n (rq.2) x1)) rq).2))) 0 (b2i ((ndR T n (decide (okN T n (rq.2) x1)) rq).1 = true)) rm rr om, ia cy (mm 5) 120 T]) := hD4
        have hp9 : ndR T n (decide (okN T n (rq.2) x1)) rq = (nmR T n x1 rq) := nm_g c_4
        have hq9 : ([mO cy mm ik (nI n) (nI ((ndR T n (decide (okN T n (rq.2) x1)) rq).2)) (nI (te T n ((ndR T n (decide (okN T n (rq.2) x1)) rq).2))) 0 (b2i ((ndR T n (decide (okN T n (rq.2) x1)) rq).1 = true)) rm rr om, ia cy (mm 5) 120 T]) = ([mO cy mm ik (nI n) (nI ((nmR T n x1 rq).2)) (nI (te T n ((ndR T n (decide (okN T n (rq.2) x1)) rq).2))) 0 (b2i ((ndR T n (decide (okN T n (rq.2) x1)) rq).1 = true)) rm rr om, ia cy (mm 5) 120 T]) := congrArg (fun z9 => [mO cy mm ik (nI n) z9 (nI (te T n ((ndR T n (decide (okN T n (rq.2) x1)) rq).2))) 0 (b2i ((ndR T n (decide (okN T n (rq.2) x1)) rq).1 = true)) rm rr om, ia cy (mm 5) 120 T]) (show (nI ((ndR T n (decide (okN T n (rq.2) x1)) rq).2)) = (nI ((nmR T n x1 rq).2)) from congrArg (fun z9 : Bool × Nat => nI (z9.2)) hp9)
        replace hP4 := (congrArg (fun z9 => va_P D vwCl z9 _) hq9).mp hP4
        replace hD4 := (congrArg (fun z9 => va_D _ z9) hq9).mp hD4
        clear hq9
        have hq9 : ([mO cy mm ik (nI n) (nI ((nmR T n x1 rq).2)) (nI (te T n ((ndR T n (decide (okN T n (rq.2) x1)) rq).2))) 0 (b2i ((ndR T n (decide (okN T n (rq.2) x1)) rq).1 = true)) rm rr om, ia cy (mm 5) 120 T]) = ([mO cy mm ik (nI n) (nI ((nmR T n x1 rq).2)) (nI (te T n ((nmR T n x1 rq).2))) 0 (b2i ((ndR T n (decide (okN T n (rq.2) x1)) rq).1 = true)) rm rr om, ia cy (mm 5) 120 T]) := congrArg (fun z9 => [mO cy mm ik (nI n) (nI ((nmR T n x1 rq).2)) z9 0 (b2i ((ndR T n (decide (okN T n (rq.2) x1)) rq).1 = true)) rm rr om, ia cy (mm 5) 120 T]) (show (nI (te T n ((ndR T n (decide (okN T n (rq.2) x1)) rq).2))) = (nI (te T n ((nmR T n x1 rq).2))) from congrArg (fun z9 : Bool × Nat => nI (te T n (z9.2))) hp9)
        replace hP4 := (congrArg (fun z9 => va_P D vwCl z9 _) hq9).mp hP4
        replace hD4 := (congrArg (fun z9 => va_D _ z9) hq9).mp hD4
        clear hq9
        have hq9 : ([mO cy mm ik (nI n) (nI ((nmR T n x1 rq).2)) (nI (te T n ((nmR T n x1 rq).2))) 0 (b2i ((ndR T n (decide (okN T n (rq.2) x1)) rq).1 = true)) rm rr om, ia cy (mm 5) 120 T]) = ([mO cy mm ik (nI n) (nI ((nmR T n x1 rq).2)) (nI (te T n ((nmR T n x1 rq).2))) 0 (b2i ((nmR T n x1 rq).1 = true)) rm rr om, ia cy (mm 5) 120 T]) := congrArg (fun z9 => [mO cy mm ik (nI n) (nI ((nmR T n x1 rq).2)) (nI (te T n ((nmR T n x1 rq).2))) 0 z9 rm rr om, ia cy (mm 5) 120 T]) (show (b2i ((ndR T n (decide (okN T n (rq.2) x1)) rq).1 = true)) = (b2i ((nmR T n x1 rq).1 = true)) from congrArg (fun z9 : Bool × Nat => b2i (z9.1 = true)) hp9)
        replace hP4 := (congrArg (fun z9 => va_P D vwCl z9 _) hq9).mp hP4
        replace hD4 := (congrArg (fun z9 => va_D _ z9) hq9).mp hD4
        clear hq9
        clear hp9
        refine re_v 0 hx hb hr hlocks hP4 hD4 hS4 dX7_number_111 ?_
        exact (fun z9 => absurd (nm_ok z9).2.1 hdi)
  · have hp9 : rq = (nmR T n x1 rq) := (nmR_t T n x1 c_4).symm
    have hq9 : ([mO cy mm ik (nI n) (nI (rq.2)) (nI (te T n (rq.2))) vl (b2i (rq.1 = true)) rm rr om, ia cy (mm 5) 120 T]) = ([mO cy mm ik (nI n) (nI ((nmR T n x1 rq).2)) (nI (te T n (rq.2))) vl (b2i (rq.1 = true)) rm rr om, ia cy (mm 5) 120 T]) := congrArg (fun z9 => [mO cy mm ik (nI n) z9 (nI (te T n (rq.2))) vl (b2i (rq.1 = true)) rm rr om, ia cy (mm 5) 120 T]) (show (nI (rq.2)) = (nI ((nmR T n x1 rq).2)) from congrArg (fun z9 : Bool × Nat => nI (z9.2)) hp9)
    replace hP0 := (congrArg (fun z9 => va_P D vwCl z9 _) hq9).mp hP0
    replace hD0 := (congrArg (fun z9 => va_D _ z9) hq9).mp hD0
    clear hq9
    have hq9 : ([mO cy mm ik (nI n) (nI ((nmR T n x1 rq).2)) (nI (te T n (rq.2))) vl (b2i (rq.1 = true)) rm rr om, ia cy (mm 5) 120 T]) = ([mO cy mm ik (nI n) (nI ((nmR T n x1 rq).2)) (nI (te T n ((nmR T n x1 rq).2))) vl (b2i (rq.1 = true)) rm rr om, ia cy (mm 5) 120 T]) := congrArg (fun z9 => [mO cy mm ik (nI n) (nI ((nmR T n x1 rq).2)) z9 vl (b2i (rq.1 = true)) rm rr om, ia cy (mm 5) 120 T]) (show (nI (te T n (rq.2))) = (nI (te T n ((nmR T n x1 rq).2))) from congrArg (fun z9 : Bool × Nat => nI (te T n (z9.2))) hp9)
    replace hP0 := (congrArg (fun z9 => va_P D vwCl z9 _) hq9).mp hP0
    replace hD0 := (congrArg (fun z9 => va_D _ z9) hq9).mp hD0
    clear hq9
    have hq9 : ([mO cy mm ik (nI n) (nI ((nmR T n x1 rq).2)) (nI (te T n ((nmR T n x1 rq).2))) vl (b2i (rq.1 = true)) rm rr om, ia cy (mm 5) 120 T]) = ([mO cy mm ik (nI n) (nI ((nmR T n x1 rq).2)) (nI (te T n ((nmR T n x1 rq).2))) vl (b2i ((nmR T n x1 rq).1 = true)) rm rr om, ia cy (mm 5) 120 T]) := congrArg (fun z9 => [mO cy mm ik (nI n) (nI ((nmR T n x1 rq).2)) (nI (te T n ((nmR T n x1 rq).2))) vl z9 rm rr om, ia cy (mm 5) 120 T]) (show (b2i (rq.1 = true)) = (b2i ((nmR T n x1 rq).1 = true)) from congrArg (fun z9 : Bool × Nat => b2i (z9.1 = true)) hp9)
    replace hP0 := (congrArg (fun z9 => va_P D vwCl z9 _) hq9).mp hP0
    replace hD0 := (congrArg (fun z9 => va_D _ z9) hq9).mp hD0
    clear hq9
    clear hp9
    refine re_v vl hx hb hr hlocks hP0 hD0 hS0 dX7_number_7 ?_
    exact (fun z9 => absurd ((congrArg Prod.fst (nmR_t T n x1 c_4)).symm.trans z9) (by rw [c_4]; decide))

theorem kc_X7_kindHere : kV yX7_kindHere cX7_kindHere 1 (some .int) 0 := ⟨kw_5_15, kw_s_39, kw_1_8, kw_5_16, by decide, by decide, by decide +kernel⟩
set_option maxHeartbeats 4000000 in
set_option maxRecDepth 100000 in
theorem c_X7_kindHere (l : Launch) (D : va_G) (cy : Nat → ClassId) (G : Nat → Nat) (sz : Nat) (mm : Nat → Nat) (ik : Int32) (vl : Int32) (rm : Int32) (rr : Int32) (om : Int32) (n : Nat) (T : Nat → Int32) (rq : Bool × Nat) (hn : n ≤ 120) (hs : rq.2 ≤ n) : Met l yX7_kindHere (wm yX7_kindHere cX7_kindHere 1 (some .int)) { frames := 3, cells := 0, slots := 0, locals := 71 } (va_Pc [.ref (mm 0)] (pd D (TY cy) G ([mO cy mm ik (nI n) (nI (rq.2)) (nI (te T n (rq.2))) vl (b2i (rq.1 = true)) rm rr om, ia cy (mm 5) 120 T]) sz)) (va_Qi (fun r (_ : Unit) => r = kndR T n rq) (fun _ _ => True) (va_A [] sz)) 0 0 (va_A [] sz) := by
  refine mk_rd (by decide) RX7 rfl (Nat.le_of_ble_eq_true rfl) [(0, .ref (mm 0))] rfl ?_
  intro p e s m below meth c hx hb hml hown hr hlocks hw hsz hA hG hK H0 locs0 hP0 hS0 ls0 hl0
  refine lv_aload_n hx hb dX7_kindHere_0 rfl (lv_at hl0 0 rfl) ?_
  refine lv_bipush (v := 103) hx hb dX7_kindHere_1 (by decide) ?_
  refine lv_bipush (v := 97) hx hb dX7_kindHere_3 (by decide) ?_
  refine lv_bipush (v := 112) hx hb dX7_kindHere_5 (by decide) ?_
  refine lv_iconst (v := 0) hx hb dX7_kindHere_7 (by decide) ?_
  refine lv_iconst (v := 0) hx hb dX7_kindHere_8 (by decide) ?_
  refine lv_iconst (v := 0) hx hb dX7_kindHere_9 (by decide) ?_
  refine lv_iconst (v := 0) hx hb dX7_kindHere_10 (by decide) ?_
  refine rV_i (wc := [mO cy mm ik (nI n) (nI (rq.2)) (nI (te T n (rq.2))) vl (b2i (rq.1 = true)) rm rr om, ia cy (mm 5) 120 T]) (rest := []) hx hb hml hown hw hG hK hP0 hS0 hA hl0 kc_X7_isWord kw_5_17 [.int 103, .int 97, .int 112, .int 0, .int 0, .int 0, .int 0] (c_X7_isWord l D cy G H0.size mm ik vl rm rr om n T rq 1 103 97 112 0 0 0 0 (by first | omega | assumption) (by first | omega | assumption) (by decide) (by decide) (by decide) (by decide) (by decide) (by decide) (by decide) (by decide)) [0, 1] rfl 0 rfl rfl rfl rfl rfl (Nat.le_of_ble_eq_true rfl) ⟨Nat.le_of_ble_eq_true rfl, Nat.le_of_ble_eq_true rfl⟩ dX7_kindHere_11 ⟨Nat.le_of_ble_eq_true rfl, Nat.le_of_ble_eq_true rfl⟩ (fun r_11 H1 locs1 hr_11 hP1 hS1 => ?_)
  clear hP0 hS0 locs0 H0
  subst hr_11
  refine lb_eq (tgt := 19) hx hb dX7_kindHere_14 (by decide) (fun c_14 => ?_) (fun c_14 => ?_)
  · refine lv_aload_n hx hb dX7_kindHere_19 rfl (lv_at hl0 0 rfl) ?_
    refine lv_bipush (v := 104) hx hb dX7_kindHere_20 (by decide) ?_
    refine lv_bipush (v := 105) hx hb dX7_kindHere_22 (by decide) ?_
    refine lv_bipush (v := 100) hx hb dX7_kindHere_24 (by decide) ?_
    refine lv_bipush (v := 100) hx hb dX7_kindHere_26 (by decide) ?_
    refine lv_bipush (v := 101) hx hb dX7_kindHere_28 (by decide) ?_
    refine lv_bipush (v := 110) hx hb dX7_kindHere_30 (by decide) ?_
    refine lv_iconst (v := 0) hx hb dX7_kindHere_32 (by decide) ?_
    refine rV_i (wc := [mO cy mm ik (nI n) (nI (rq.2)) (nI (te T n (rq.2))) vl (b2i (rq.1 = true)) rm rr om, ia cy (mm 5) 120 T]) (rest := []) hx hb hml hown hw hG hK hP1 hS1 hA hl0 kc_X7_isWord kw_5_17 [.int 104, .int 105, .int 100, .int 100, .int 101, .int 110, .int 0] (c_X7_isWord l D cy G H1.size mm ik vl rm rr om n T rq 2 104 105 100 100 101 110 0 (by first | omega | assumption) (by first | omega | assumption) (by decide) (by decide) (by decide) (by decide) (by decide) (by decide) (by decide) (by decide)) [0, 1] rfl 0 rfl rfl rfl rfl rfl (Nat.le_of_ble_eq_true rfl) ⟨Nat.le_of_ble_eq_true rfl, Nat.le_of_ble_eq_true rfl⟩ dX7_kindHere_33 ⟨Nat.le_of_ble_eq_true rfl, Nat.le_of_ble_eq_true rfl⟩ (fun r_33 H2 locs2 hr_33 hP2 hS2 => ?_)
    clear hP1 hS1 locs1 H1
    subst hr_33
    refine lb_eq (tgt := 43) hx hb dX7_kindHere_36 (by decide) (fun c_36 => ?_) (fun c_36 => ?_)
    · refine lv_aload_n hx hb dX7_kindHere_43 rfl (lv_at hl0 0 rfl) ?_
      refine lv_bipush (v := 110) hx hb dX7_kindHere_44 (by decide) ?_
      refine lv_bipush (v := 101) hx hb dX7_kindHere_46 (by decide) ?_
      refine lv_bipush (v := 101) hx hb dX7_kindHere_48 (by decide) ?_
      refine lv_bipush (v := 100) hx hb dX7_kindHere_50 (by decide) ?_
      refine lv_bipush (v := 101) hx hb dX7_kindHere_52 (by decide) ?_
      refine lv_bipush (v := 100) hx hb dX7_kindHere_54 (by decide) ?_
      refine lv_iconst (v := 0) hx hb dX7_kindHere_56 (by decide) ?_
      refine rV_i (wc := [mO cy mm ik (nI n) (nI (rq.2)) (nI (te T n (rq.2))) vl (b2i (rq.1 = true)) rm rr om, ia cy (mm 5) 120 T]) (rest := []) hx hb hml hown hw hG hK hP2 hS2 hA hl0 kc_X7_isWord kw_5_17 [.int 110, .int 101, .int 101, .int 100, .int 101, .int 100, .int 0] (c_X7_isWord l D cy G H2.size mm ik vl rm rr om n T rq 3 110 101 101 100 101 100 0 (by first | omega | assumption) (by first | omega | assumption) (by decide) (by decide) (by decide) (by decide) (by decide) (by decide) (by decide) (by decide)) [0, 1] rfl 0 rfl rfl rfl rfl rfl (Nat.le_of_ble_eq_true rfl) ⟨Nat.le_of_ble_eq_true rfl, Nat.le_of_ble_eq_true rfl⟩ dX7_kindHere_57 ⟨Nat.le_of_ble_eq_true rfl, Nat.le_of_ble_eq_true rfl⟩ (fun r_57 H3 locs3 hr_57 hP3 hS3 => ?_)
      clear hP2 hS2 locs2 H2
      subst hr_57
      refine lb_eq (tgt := 67) hx hb dX7_kindHere_60 (by decide) (fun c_60 => ?_) (fun c_60 => ?_)
      · refine lv_aload_n hx hb dX7_kindHere_67 rfl (lv_at hl0 0 rfl) ?_
        refine lv_bipush (v := 107) hx hb dX7_kindHere_68 (by decide) ?_
        refine lv_bipush (v := 110) hx hb dX7_kindHere_70 (by decide) ?_
        refine lv_bipush (v := 111) hx hb dX7_kindHere_72 (by decide) ?_
        refine lv_bipush (v := 119) hx hb dX7_kindHere_74 (by decide) ?_
        refine lv_bipush (v := 110) hx hb dX7_kindHere_76 (by decide) ?_
        refine lv_iconst (v := 0) hx hb dX7_kindHere_78 (by decide) ?_
        refine lv_iconst (v := 0) hx hb dX7_kindHere_79 (by decide) ?_
        refine rV_i (wc := [mO cy mm ik (nI n) (nI (rq.2)) (nI (te T n (rq.2))) vl (b2i (rq.1 = true)) rm rr om, ia cy (mm 5) 120 T]) (rest := []) hx hb hml hown hw hG hK hP3 hS3 hA hl0 kc_X7_isWord kw_5_17 [.int 107, .int 110, .int 111, .int 119, .int 110, .int 0, .int 0] (c_X7_isWord l D cy G H3.size mm ik vl rm rr om n T rq 4 107 110 111 119 110 0 0 (by first | omega | assumption) (by first | omega | assumption) (by decide) (by decide) (by decide) (by decide) (by decide) (by decide) (by decide) (by decide)) [0, 1] rfl 0 rfl rfl rfl rfl rfl (Nat.le_of_ble_eq_true rfl) ⟨Nat.le_of_ble_eq_true rfl, Nat.le_of_ble_eq_true rfl⟩ dX7_kindHere_80 ⟨Nat.le_of_ble_eq_true rfl, Nat.le_of_ble_eq_true rfl⟩ (fun r_80 H4 locs4 hr_80 hP4 hS4 => ?_)
        clear hP3 hS3 locs3 H3
        subst hr_80
        refine lb_eq (tgt := 90) hx hb dX7_kindHere_83 (by decide) (fun c_83 => ?_) (fun c_83 => ?_)
        · refine lv_aload_n hx hb dX7_kindHere_90 rfl (lv_at hl0 0 rfl) ?_
          refine lv_bipush (v := 116) hx hb dX7_kindHere_91 (by decide) ?_
          refine lv_bipush (v := 117) hx hb dX7_kindHere_93 (by decide) ?_
          refine lv_bipush (v := 114) hx hb dX7_kindHere_95 (by decide) ?_
          refine lv_bipush (v := 110) hx hb dX7_kindHere_97 (by decide) ?_
          refine lv_bipush (v := 105) hx hb dX7_kindHere_99 (by decide) ?_
          refine lv_bipush (v := 110) hx hb dX7_kindHere_101 (by decide) ?_
          refine lv_bipush (v := 103) hx hb dX7_kindHere_103 (by decide) ?_
          refine rV_i (wc := [mO cy mm ik (nI n) (nI (rq.2)) (nI (te T n (rq.2))) vl (b2i (rq.1 = true)) rm rr om, ia cy (mm 5) 120 T]) (rest := []) hx hb hml hown hw hG hK hP4 hS4 hA hl0 kc_X7_isWord kw_5_17 [.int 116, .int 117, .int 114, .int 110, .int 105, .int 110, .int 103] (c_X7_isWord l D cy G H4.size mm ik vl rm rr om n T rq 5 116 117 114 110 105 110 103 (by first | omega | assumption) (by first | omega | assumption) (by decide) (by decide) (by decide) (by decide) (by decide) (by decide) (by decide) (by decide)) [0, 1] rfl 0 rfl rfl rfl rfl rfl (Nat.le_of_ble_eq_true rfl) ⟨Nat.le_of_ble_eq_true rfl, Nat.le_of_ble_eq_true rfl⟩ dX7_kindHere_105 ⟨Nat.le_of_ble_eq_true rfl, Nat.le_of_ble_eq_true rfl⟩ (fun r_105 H5 locs5 hr_105 hP5 hS5 => ?_)
          clear hP4 hS4 locs4 H4
          subst hr_105
          refine lb_eq (tgt := 115) hx hb dX7_kindHere_108 (by decide) (fun c_108 => ?_) (fun c_108 => ?_)
          · refine lv_aload_n hx hb dX7_kindHere_115 rfl (lv_at hl0 0 rfl) ?_
            refine lv_bipush (v := 99) hx hb dX7_kindHere_116 (by decide) ?_
            refine lv_bipush (v := 104) hx hb dX7_kindHere_118 (by decide) ?_
            refine lv_bipush (v := 105) hx hb dX7_kindHere_120 (by decide) ?_
            refine lv_bipush (v := 109) hx hb dX7_kindHere_122 (by decide) ?_
            refine lv_bipush (v := 110) hx hb dX7_kindHere_124 (by decide) ?_
            refine lv_bipush (v := 101) hx hb dX7_kindHere_126 (by decide) ?_
            refine lv_bipush (v := 121) hx hb dX7_kindHere_128 (by decide) ?_
            refine rV_i (wc := [mO cy mm ik (nI n) (nI (rq.2)) (nI (te T n (rq.2))) vl (b2i (rq.1 = true)) rm rr om, ia cy (mm 5) 120 T]) (rest := []) hx hb hml hown hw hG hK hP5 hS5 hA hl0 kc_X7_isWord kw_5_17 [.int 99, .int 104, .int 105, .int 109, .int 110, .int 101, .int 121] (c_X7_isWord l D cy G H5.size mm ik vl rm rr om n T rq 6 99 104 105 109 110 101 121 (by first | omega | assumption) (by first | omega | assumption) (by decide) (by decide) (by decide) (by decide) (by decide) (by decide) (by decide) (by decide)) [0, 1] rfl 0 rfl rfl rfl rfl rfl (Nat.le_of_ble_eq_true rfl) ⟨Nat.le_of_ble_eq_true rfl, Nat.le_of_ble_eq_true rfl⟩ dX7_kindHere_130 ⟨Nat.le_of_ble_eq_true rfl, Nat.le_of_ble_eq_true rfl⟩ (fun r_130 H6 locs6 hr_130 hP6 hS6 => ?_)
            clear hP5 hS5 locs5 H5
            subst hr_130
            refine lb_eq (tgt := 140) hx hb dX7_kindHere_133 (by decide) (fun c_133 => ?_) (fun c_133 => ?_)
            · refine lv_iconst (v := (-1)) hx hb dX7_kindHere_140 (by decide) ?_
              exact rd_i hx hb hr hlocks hS6 dX7_kindHere_141 (by clear hx hb hml hown hr hlocks hw hsz hA hG hK hP6 hS6 hl0; unfold kndR knd; grind)
            · refine lv_iconst (v := 5) hx hb dX7_kindHere_136 (by decide) ?_
              refine lv_goto (tgt := 141) hx hb dX7_kindHere_137 (by decide) ?_
              exact rd_i hx hb hr hlocks hS6 dX7_kindHere_141 (by clear hx hb hml hown hr hlocks hw hsz hA hG hK hP6 hS6 hl0; unfold kndR knd; grind)
          · refine lv_iconst (v := 4) hx hb dX7_kindHere_111 (by decide) ?_
            refine lv_goto (tgt := 141) hx hb dX7_kindHere_112 (by decide) ?_
            exact rd_i hx hb hr hlocks hS5 dX7_kindHere_141 (by clear hx hb hml hown hr hlocks hw hsz hA hG hK hP5 hS5 hl0; unfold kndR knd; grind)
        · refine lv_iconst (v := 3) hx hb dX7_kindHere_86 (by decide) ?_
          refine lv_goto (tgt := 141) hx hb dX7_kindHere_87 (by decide) ?_
          exact rd_i hx hb hr hlocks hS4 dX7_kindHere_141 (by clear hx hb hml hown hr hlocks hw hsz hA hG hK hP4 hS4 hl0; unfold kndR knd; grind)
      · refine lv_iconst (v := 2) hx hb dX7_kindHere_63 (by decide) ?_
        refine lv_goto (tgt := 141) hx hb dX7_kindHere_64 (by decide) ?_
        exact rd_i hx hb hr hlocks hS3 dX7_kindHere_141 (by clear hx hb hml hown hr hlocks hw hsz hA hG hK hP3 hS3 hl0; unfold kndR knd; grind)
    · refine lv_iconst (v := 1) hx hb dX7_kindHere_39 (by decide) ?_
      refine lv_goto (tgt := 141) hx hb dX7_kindHere_40 (by decide) ?_
      exact rd_i hx hb hr hlocks hS2 dX7_kindHere_141 (by clear hx hb hml hown hr hlocks hw hsz hA hG hK hP2 hS2 hl0; unfold kndR knd; grind)
  · refine lv_iconst (v := 0) hx hb dX7_kindHere_17 (by decide) ?_
    exact rd_i hx hb hr hlocks hS1 dX7_kindHere_18 (by clear hx hb hml hown hr hlocks hw hsz hA hG hK hP1 hS1 hl0; unfold kndR knd; grind)

theorem kc_X7_perhaps : kV yX7_perhaps cX7_perhaps 3 (some .int) 2 := ⟨kw_5_43, kw_s_46, kw_1_8, kw_5_44, by decide, by decide, by decide +kernel⟩
set_option maxHeartbeats 4000000 in
set_option maxRecDepth 100000 in
theorem c_X7_perhaps (l : Launch) (D : va_G) (cy : Nat → ClassId) (G : Nat → Nat) (sz : Nat) (mm : Nat → Nat) (ik : Int32) (vl : Int32) (rm : Int32) (rr : Int32) (om : Int32) (n : Nat) (T : Nat → Int32) (rq : Bool × Nat) (i : Nat) (x1 : Int32) (hn : n ≤ 120) (hs : rq.2 ≤ n) (hm : x1 ≤ 999) : Met l yX7_perhaps (wm yX7_perhaps cX7_perhaps 3 (some .int)) { frames := 5, cells := 0, slots := 0, locals := 113 } (va_Pc [.ref (mm 0), .int (b2i (rq.1 = false ∧ isW T n (rq.2) i = true)), .int x1] (pr D (TY cy) G ([mO cy mm ik (nI n) (nI (rq.2)) (nI (te T n (rq.2))) vl (b2i (rq.1 = true)) rm rr om, ia cy (mm 5) 120 T]) sz)) (va_Qi (fun (r : Int32) (u : Int32) => (phR T n i x1 rq).1 = false → r = phV T n i (rq.2)) (fun (u : Int32) t => po D (va_A ([mO cy mm ik (nI n) (nI (rq.2)) (nI (te T n (rq.2))) vl (b2i (rq.1 = true)) rm rr om, ia cy (mm 5) 120 T]) sz) ([mO cy mm ik (nI n) (nI ((phR T n i x1 rq).2)) (nI (te T n ((phR T n i x1 rq).2))) u (b2i ((phR T n i x1 rq).1 = true)) rm rr om, ia cy (mm 5) 120 T]) t) (va_A ([mO cy mm ik (nI n) (nI (rq.2)) (nI (te T n (rq.2))) vl (b2i (rq.1 = true)) rm rr om, ia cy (mm 5) 120 T]) sz)) 0 0 (va_A ([mO cy mm ik (nI n) (nI (rq.2)) (nI (te T n (rq.2))) vl (b2i (rq.1 = true)) rm rr om, ia cy (mm 5) 120 T]) sz) := by
  refine mk_rw (by decide) RX7 rfl (Nat.le_of_ble_eq_true rfl) [(0, .ref (mm 0)), (1, .int (b2i (rq.1 = false ∧ isW T n (rq.2) i = true))), (2, .int x1)] rfl ?_
  intro p e s m below meth c hx hb hml hown hr hlocks hin hw hsz hA hG hK H0 locs0 hP0 hD0 hS0 ls0 hl0
  clear hin
  have hnb := ndR_b (T := T) (p := true) hs
  refine lv_aload_n hx hb dX7_perhaps_0 rfl (lv_at hl0 0 rfl) ?_
  refine va_get (D := D) (ci := 7) (v := .int (b2i (rq.1 = true))) (C := RX7) (T := TX7) (N := 23) hx hb hw iX7 hown hK hP0 0 rfl rfl 10 (by decide) (hw _ kw_4_74) (fun _ h9 => h9) rfl dX7_perhaps_1 ?_
  refine lb_ne (tgt := 11) hx hb dX7_perhaps_4 (by decide) (fun c_4 => ?_) (fun c_4 => ?_)
  · have hp9 : rq = (phR T n i x1 rq) := ph_x (fun z9 => absurd (z9.1.symm.trans c_4) (by decide))
    have hq9 : ([mO cy mm ik (nI n) (nI (rq.2)) (nI (te T n (rq.2))) vl (b2i (rq.1 = true)) rm rr om, ia cy (mm 5) 120 T]) = ([mO cy mm ik (nI n) (nI ((phR T n i x1 rq).2)) (nI (te T n (rq.2))) vl (b2i (rq.1 = true)) rm rr om, ia cy (mm 5) 120 T]) := congrArg (fun z9 => [mO cy mm ik (nI n) z9 (nI (te T n (rq.2))) vl (b2i (rq.1 = true)) rm rr om, ia cy (mm 5) 120 T]) (show (nI (rq.2)) = (nI ((phR T n i x1 rq).2)) from congrArg (fun z9 : Bool × Nat => nI (z9.2)) hp9)
    replace hP0 := (congrArg (fun z9 => va_P D vwCl z9 _) hq9).mp hP0
    replace hD0 := (congrArg (fun z9 => va_D _ z9) hq9).mp hD0
    clear hq9
    have hq9 : ([mO cy mm ik (nI n) (nI ((phR T n i x1 rq).2)) (nI (te T n (rq.2))) vl (b2i (rq.1 = true)) rm rr om, ia cy (mm 5) 120 T]) = ([mO cy mm ik (nI n) (nI ((phR T n i x1 rq).2)) (nI (te T n ((phR T n i x1 rq).2))) vl (b2i (rq.1 = true)) rm rr om, ia cy (mm 5) 120 T]) := congrArg (fun z9 => [mO cy mm ik (nI n) (nI ((phR T n i x1 rq).2)) z9 vl (b2i (rq.1 = true)) rm rr om, ia cy (mm 5) 120 T]) (show (nI (te T n (rq.2))) = (nI (te T n ((phR T n i x1 rq).2))) from congrArg (fun z9 : Bool × Nat => nI (te T n (z9.2))) hp9)
    replace hP0 := (congrArg (fun z9 => va_P D vwCl z9 _) hq9).mp hP0
    replace hD0 := (congrArg (fun z9 => va_D _ z9) hq9).mp hD0
    clear hq9
    have hq9 : ([mO cy mm ik (nI n) (nI ((phR T n i x1 rq).2)) (nI (te T n ((phR T n i x1 rq).2))) vl (b2i (rq.1 = true)) rm rr om, ia cy (mm 5) 120 T]) = ([mO cy mm ik (nI n) (nI ((phR T n i x1 rq).2)) (nI (te T n ((phR T n i x1 rq).2))) vl (b2i ((phR T n i x1 rq).1 = true)) rm rr om, ia cy (mm 5) 120 T]) := congrArg (fun z9 => [mO cy mm ik (nI n) (nI ((phR T n i x1 rq).2)) (nI (te T n ((phR T n i x1 rq).2))) vl z9 rm rr om, ia cy (mm 5) 120 T]) (show (b2i (rq.1 = true)) = (b2i ((phR T n i x1 rq).1 = true)) from congrArg (fun z9 : Bool × Nat => b2i (z9.1 = true)) hp9)
    replace hP0 := (congrArg (fun z9 => va_P D vwCl z9 _) hq9).mp hP0
    replace hD0 := (congrArg (fun z9 => va_D _ z9) hq9).mp hD0
    clear hq9
    clear hp9
    refine lv_iconst (v := 0) hx hb dX7_perhaps_11 (by decide) ?_
    refine re_i vl hx hb hr hlocks hP0 hD0 hS0 dX7_perhaps_12 ?_
    exact (fun z9 => by have h9 := (fun z8 => absurd (z8.1.symm.trans c_4) (by decide) : ¬ (rq.1 = false ∧ isW T n (rq.2) i = true)); unfold phV; rw [if_neg (fun q9 => h9 ⟨(show rq.1 = false by rw [ph_x h9]; exact z9), q9⟩)])
  · refine lv_iload_n hx hb dX7_perhaps_7 rfl (lv_at hl0 1 rfl) ?_
    refine lb_ne (tgt := 13) hx hb dX7_perhaps_8 (by decide) (fun c_8 => ?_) (fun c_8 => ?_)
    · refine lv_aload_n hx hb dX7_perhaps_13 rfl (lv_at hl0 0 rfl) ?_
      refine lv_iconst (v := 1) hx hb dX7_perhaps_14 (by decide) ?_
      refine tp (show (1) = b2i (true = true) from (b2i_t rfl).symm) ?_
      refine cV_v (wc := [mO cy mm ik (nI n) (nI (rq.2)) (nI (te T n (rq.2))) vl (b2i (rq.1 = true)) rm rr om, ia cy (mm 5) 120 T]) (wr := []) (rest := []) hx hb hml hown hw hG hK hP0 hD0 hS0 hA hl0 kc_X7_needs kw_5_29 [.int (b2i (true = true))] (c_X7_needs l D cy G H0.size mm ik vl rm rr om n T rq true (by first | omega | assumption) (by first | omega | assumption)) [0, 1] [] rfl rfl rfl rfl rfl 0 rfl rfl rfl rfl rfl (Nat.le_of_ble_eq_true rfl) ⟨Nat.le_of_ble_eq_true rfl, Nat.le_of_ble_eq_true rfl⟩ dX7_perhaps_15 ⟨Nat.le_of_ble_eq_true rfl, Nat.le_of_ble_eq_true rfl⟩ (fun u9 H1 locs1 hu9 hP1 hD1 hS1 => ?_)
      clear hP0 hD0 hS0 locs0 H0
      replace hP1 : va_P D vwCl ([mO cy mm ik (nI n) (nI ((ndR T n true rq).2)) (nI (te T n ((ndR T n true rq).2))) vl (b2i ((ndR T n true rq).1 = true)) rm rr om, ia cy (mm 5) 120 T]) H1 := hP1
      replace hD1 : va_D (va_A _ sz) ([mO cy mm ik (nI n) (nI ((ndR T n true rq).2)) (nI (te T n ((ndR T n true rq).2))) vl (b2i ((ndR T n true rq).1 = true)) rm rr om, ia cy (mm 5) 120 T]) := hD1
      refine lv_aload_n hx hb dX7_perhaps_18 rfl (lv_at hl0 0 rfl) ?_
      refine lv_iconst (v := 0) hx hb dX7_perhaps_19 (by decide) ?_
      refine lv_iload_n hx hb dX7_perhaps_20 rfl (lv_at hl0 2 rfl) ?_
      refine cV_v (wc := [mO cy mm ik (nI n) (nI ((ndR T n true rq).2)) (nI (te T n ((ndR T n true rq).2))) vl (b2i ((ndR T n true rq).1 = true)) rm rr om, ia cy (mm 5) 120 T]) (wr := []) (rest := []) hx hb hml hown hw hG hK hP1 hD1 hS1 hA hl0 kc_X7_number kw_5_33 [.int 0, .int x1] (c_X7_number l D cy G H1.size mm ik vl rm rr om n T (ndR T n true rq) x1 (by first | omega | assumption) hnb.2 (by first | omega | assumption)) [0, 1] [] rfl rfl rfl rfl rfl 0 rfl rfl rfl rfl rfl (Nat.le_of_ble_eq_true rfl) ⟨Nat.le_of_ble_eq_true rfl, Nat.le_of_ble_eq_true rfl⟩ dX7_perhaps_21 ⟨Nat.le_of_ble_eq_true rfl, Nat.le_of_ble_eq_true rfl⟩ (fun u9 H2 locs2 hu9 hP2 hD2 hS2 => ?_)
      clear hP1 hD1 hS1 locs1 H1
      obtain ⟨vl1_21, rfl⟩ : ∃ z9, z9 = u9 := ⟨_, rfl⟩
      have hvl_21 := hu9
      replace hvl_21 : (nmR T n x1 (ndR T n true rq)).1 = false → vl1_21 = nI (numV T n ((ndR T n true rq).2)) := hvl_21
      replace hP2 : va_P D vwCl ([mO cy mm ik (nI n) (nI ((nmR T n x1 (ndR T n true rq)).2)) (nI (te T n ((nmR T n x1 (ndR T n true rq)).2))) vl1_21 (b2i ((nmR T n x1 (ndR T n true rq)).1 = true)) rm rr om, ia cy (mm 5) 120 T]) H2 := hP2
      replace hD2 : va_D (va_A _ sz) ([mO cy mm ik (nI n) (nI ((nmR T n x1 (ndR T n true rq)).2)) (nI (te T n ((nmR T n x1 (ndR T n true rq)).2))) vl1_21 (b2i ((nmR T n x1 (ndR T n true rq)).1 = true)) rm rr om, ia cy (mm 5) 120 T]) := hD2
      refine lv_aload_n hx hb dX7_perhaps_24 rfl (lv_at hl0 0 rfl) ?_
      refine va_get (D := D) (ci := 7) (v := .int vl1_21) (C := RX7) (T := TX7) (N := 23) hx hb hw iX7 hown hK hP2 0 rfl rfl 9 (by decide) (hw _ kw_4_73) (fun _ h9 => h9) rfl dX7_perhaps_25 ?_
      have hp9 : nmR T n x1 (ndR T n true rq) = (phR T n i x1 rq) := ph_g c_8
      have hq9 : ([mO cy mm ik (nI n) (nI ((nmR T n x1 (ndR T n true rq)).2)) (nI (te T n ((nmR T n x1 (ndR T n true rq)).2))) vl1_21 (b2i ((nmR T n x1 (ndR T n true rq)).1 = true)) rm rr om, ia cy (mm 5) 120 T]) = ([mO cy mm ik (nI n) (nI ((phR T n i x1 rq).2)) (nI (te T n ((nmR T n x1 (ndR T n true rq)).2))) vl1_21 (b2i ((nmR T n x1 (ndR T n true rq)).1 = true)) rm rr om, ia cy (mm 5) 120 T]) := congrArg (fun z9 => [mO cy mm ik (nI n) z9 (nI (te T n ((nmR T n x1 (ndR T n true rq)).2))) vl1_21 (b2i ((nmR T n x1 (ndR T n true rq)).1 = true)) rm rr om, ia cy (mm 5) 120 T]) (show (nI ((nmR T n x1 (ndR T n true rq)).2)) = (nI ((phR T n i x1 rq).2)) from congrArg (fun z9 : Bool × Nat => nI (z9.2)) hp9)
      replace hP2 := (congrArg (fun z9 => va_P D vwCl z9 _) hq9).mp hP2
      replace hD2 := (congrArg (fun z9 => va_D _ z9) hq9).mp hD2
      clear hq9
      have hq9 : ([mO cy mm ik (nI n) (nI ((phR T n i x1 rq).2)) (nI (te T n ((nmR T n x1 (ndR T n true rq)).2))) vl1_21 (b2i ((nmR T n x1 (ndR T n true rq)).1 = true)) rm rr om, ia cy (mm 5) 120 T]) = ([mO cy mm ik (nI n) (nI ((phR T n i x1 rq).2)) (nI (te T n ((phR T n i x1 rq).2))) vl1_21 (b2i ((nmR T n x1 (ndR T n true rq)).1 = true)) rm rr om, ia cy (mm 5) 120 T]) := congrArg (fun z9 => [mO cy mm ik (nI n) (nI ((phR T n i x1 rq).2)) z9 vl1_21 (b2i ((nmR T n x1 (ndR T n true rq)).1 = true)) rm rr om, ia cy (mm 5) 120 T]) (show (nI (te T n ((nmR T n x1 (ndR T n true rq)).2))) = (nI (te T n ((phR T n i x1 rq).2))) from congrArg (fun z9 : Bool × Nat => nI (te T n (z9.2))) hp9)
      replace hP2 := (congrArg (fun z9 => va_P D vwCl z9 _) hq9).mp hP2
      replace hD2 := (congrArg (fun z9 => va_D _ z9) hq9).mp hD2
      clear hq9
      have hq9 : ([mO cy mm ik (nI n) (nI ((phR T n i x1 rq).2)) (nI (te T n ((phR T n i x1 rq).2))) vl1_21 (b2i ((nmR T n x1 (ndR T n true rq)).1 = true)) rm rr om, ia cy (mm 5) 120 T]) = ([mO cy mm ik (nI n) (nI ((phR T n i x1 rq).2)) (nI (te T n ((phR T n i x1 rq).2))) vl1_21 (b2i ((phR T n i x1 rq).1 = true)) rm rr om, ia cy (mm 5) 120 T]) := congrArg (fun z9 => [mO cy mm ik (nI n) (nI ((phR T n i x1 rq).2)) (nI (te T n ((phR T n i x1 rq).2))) vl1_21 z9 rm rr om, ia cy (mm 5) 120 T]) (show (b2i ((nmR T n x1 (ndR T n true rq)).1 = true)) = (b2i ((phR T n i x1 rq).1 = true)) from congrArg (fun z9 : Bool × Nat => b2i (z9.1 = true)) hp9)
      replace hP2 := (congrArg (fun z9 => va_P D vwCl z9 _) hq9).mp hP2
      replace hD2 := (congrArg (fun z9 => va_D _ z9) hq9).mp hD2
      clear hq9
      clear hp9
      refine re_i vl1_21 hx hb hr hlocks hP2 hD2 hS2 dX7_perhaps_28 ?_
      exact (fun z9 => by rw [← ph_g c_8] at z9; rw [hvl_21 z9, (nd_ok (nm_ok z9).1).2.2]; unfold phV; rw [if_pos c_8.2])
    · have hp9 : rq = (phR T n i x1 rq) := ph_x c_8
      have hq9 : ([mO cy mm ik (nI n) (nI (rq.2)) (nI (te T n (rq.2))) vl (b2i (rq.1 = true)) rm rr om, ia cy (mm 5) 120 T]) = ([mO cy mm ik (nI n) (nI ((phR T n i x1 rq).2)) (nI (te T n (rq.2))) vl (b2i (rq.1 = true)) rm rr om, ia cy (mm 5) 120 T]) := congrArg (fun z9 => [mO cy mm ik (nI n) z9 (nI (te T n (rq.2))) vl (b2i (rq.1 = true)) rm rr om, ia cy (mm 5) 120 T]) (show (nI (rq.2)) = (nI ((phR T n i x1 rq).2)) from congrArg (fun z9 : Bool × Nat => nI (z9.2)) hp9)
      replace hP0 := (congrArg (fun z9 => va_P D vwCl z9 _) hq9).mp hP0
      replace hD0 := (congrArg (fun z9 => va_D _ z9) hq9).mp hD0
      clear hq9
      have hq9 : ([mO cy mm ik (nI n) (nI ((phR T n i x1 rq).2)) (nI (te T n (rq.2))) vl (b2i (rq.1 = true)) rm rr om, ia cy (mm 5) 120 T]) = ([mO cy mm ik (nI n) (nI ((phR T n i x1 rq).2)) (nI (te T n ((phR T n i x1 rq).2))) vl (b2i (rq.1 = true)) rm rr om, ia cy (mm 5) 120 T]) := congrArg (fun z9 => [mO cy mm ik (nI n) (nI ((phR T n i x1 rq).2)) z9 vl (b2i (rq.1 = true)) rm rr om, ia cy (mm 5) 120 T]) (show (nI (te T n (rq.2))) = (nI (te T n ((phR T n i x1 rq).2))) from congrArg (fun z9 : Bool × Nat => nI (te T n (z9.2))) hp9)
      replace hP0 := (congrArg (fun z9 => va_P D vwCl z9 _) hq9).mp hP0
      replace hD0 := (congrArg (fun z9 => va_D _ z9) hq9).mp hD0
      clear hq9
      have hq9 : ([mO cy mm ik (nI n) (nI ((phR T n i x1 rq).2)) (nI (te T n ((phR T n i x1 rq).2))) vl (b2i (rq.1 = true)) rm rr om, ia cy (mm 5) 120 T]) = ([mO cy mm ik (nI n) (nI ((phR T n i x1 rq).2)) (nI (te T n ((phR T n i x1 rq).2))) vl (b2i ((phR T n i x1 rq).1 = true)) rm rr om, ia cy (mm 5) 120 T]) := congrArg (fun z9 => [mO cy mm ik (nI n) (nI ((phR T n i x1 rq).2)) (nI (te T n ((phR T n i x1 rq).2))) vl z9 rm rr om, ia cy (mm 5) 120 T]) (show (b2i (rq.1 = true)) = (b2i ((phR T n i x1 rq).1 = true)) from congrArg (fun z9 : Bool × Nat => b2i (z9.1 = true)) hp9)
      replace hP0 := (congrArg (fun z9 => va_P D vwCl z9 _) hq9).mp hP0
      replace hD0 := (congrArg (fun z9 => va_D _ z9) hq9).mp hD0
      clear hq9
      clear hp9
      refine lv_iconst (v := 0) hx hb dX7_perhaps_11 (by decide) ?_
      refine re_i vl hx hb hr hlocks hP0 hD0 hS0 dX7_perhaps_12 ?_
      exact (fun z9 => by have h9 := c_8; unfold phV; rw [if_neg (fun q9 => h9 ⟨(show rq.1 = false by rw [ph_x h9]; exact z9), q9⟩)])

theorem kc_X7_sameNumber : kV yX7_sameNumber cX7_sameNumber 4 (some .boolean) 1 := ⟨kw_5_39, kw_s_45, kw_1_8, kw_5_40, by decide, by decide, by decide +kernel⟩
set_option maxHeartbeats 4000000 in
set_option maxRecDepth 100000 in
theorem c_X7_sameNumber (l : Launch) (D : va_G) (cy : Nat → ClassId) (G : Nat → Nat) (sz : Nat) (mm : Nat → Nat) (ik : Int32) (vl : Int32) (rm : Int32) (rr : Int32) (om : Int32) (n : Nat) (T : Nat → Int32) (rq : Bool × Nat) (v : Nat) (hn : n ≤ 120) (hs : rq.2 ≤ n) (hv : v ≤ 999) (hdi : isD (bt T n (rq.2))) : Met l yX7_sameNumber (wm yX7_sameNumber cX7_sameNumber 4 (some .boolean)) { frames := 0, cells := 0, slots := 0, locals := 0 } (va_Pc [.ref (mm 0), .int (nI v)] (pd D (TY cy) G ([mO cy mm ik (nI n) (nI (rq.2)) (nI (te T n (rq.2))) vl (b2i (rq.1 = true)) rm rr om, ia cy (mm 5) 120 T]) sz)) (va_Qi (fun r (_ : Unit) => r = b2i (numV T n (rq.2) = v)) (fun _ _ => True) (va_A [] sz)) 0 0 (va_A [] sz) := by
  refine mk_rd (by decide) RX7 rfl (Nat.le_of_ble_eq_true rfl) [(0, .ref (mm 0)), (1, .int (nI v))] rfl ?_
  intro p e s m below meth c hx hb hml hown hr hlocks hw hsz hA hG hK H0 locs0 hP0 hS0 ls0 hl0
  have hte := te_b (T := T) hs
  refine lv_iconst (v := 0) hx hb dX7_sameNumber_0 (by decide) ?_
  refine lv_istore_n (lv' := [(2, .int 0), (0, .ref (mm 0)), (1, .int (nI v))]) hx hb dX7_sameNumber_1 rfl hl0 (by decide) rfl (fun ls1 hl1 => ?_)
  clear hl0 ls0
  refine lv_aload_n hx hb dX7_sameNumber_2 rfl (lv_at hl1 1 rfl) ?_
  refine va_get (D := D) (ci := 7) (v := .int (nI (rq.2))) (C := RX7) (T := TX7) (N := 23) hx hb hw iX7 hown hK hP0 0 rfl rfl 7 (by decide) (hw _ kw_4_71) (fun _ h9 => h9) rfl dX7_sameNumber_3 ?_
  refine lv_istore_n (lv' := [(3, .int (nI (rq.2))), (2, .int 0), (0, .ref (mm 0)), (1, .int (nI v))]) hx hb dX7_sameNumber_6 rfl hl1 (by decide) rfl (fun ls2 hl2 => ?_)
  clear hl1 ls1
  have hq9 : nI (rq.2 + 0) = nI (rq.2) := rfl
  replace hl2 : lv_has ls2 4 [(3, .int (nI (rq.2 + 0))), (2, .int 0), (0, .ref (mm 0)), (1, .int (nI v))] := (congrArg (fun z9 => lv_has ls2 4 [(3, .int z9), (2, .int 0), (0, .ref (mm 0)), (1, .int (nI v))]) hq9).mpr hl2
  clear hq9
  have hq9 : nI (nvR T (rq.2) 0) = 0 := rfl
  replace hl2 : lv_has ls2 4 [(3, .int (nI (rq.2 + 0))), (2, .int (nI (nvR T (rq.2) 0))), (0, .ref (mm 0)), (1, .int (nI v))] := (congrArg (fun z9 => lv_has ls2 4 [(3, .int (nI (rq.2 + 0))), (2, .int z9), (0, .ref (mm 0)), (1, .int (nI v))]) hq9).mpr hl2
  clear hq9
  refine rlp (ι := Nat) (nL := 4) (ws := [mO cy mm ik (nI n) (nI (rq.2)) (nI (te T n (rq.2))) vl (b2i (rq.1 = true)) rm rr om, ia cy (mm 5) 120 T]) (fun x9 => (rq.2 + x9 ≤ te T n (rq.2))) (fun x9 => [(3, .int (nI (rq.2 + x9))), (2, .int (nI (nvR T (rq.2) x9))), (0, .ref (mm 0)), (1, .int (nI v))]) (fun x9 => []) (fun x9 => te T n (rq.2) - (rq.2 + x9)) 7 ?_ 0 (hte.1) rfl hP0 hS0 (lv_sub hl2 [0, 1, 2, 3] rfl)
  clear hP0 hS0 locs0 H0 hl2 ls2
  intro x9 hI ih_7 H1 locs1 ls3 hP1 hS1 hl3
  obtain ⟨i, rfl⟩ : ∃ z9, z9 = x9 := ⟨_, rfl⟩
  have hi := hI
  replace hi : rq.2 + i ≤ te T n (rq.2) := hi
  replace hP1 : va_P D vwCl ([mO cy mm ik (nI n) (nI (rq.2)) (nI (te T n (rq.2))) vl (b2i (rq.1 = true)) rm rr om, ia cy (mm 5) 120 T]) H1 := hP1
  replace hl3 : lv_has ls3 4 [(3, .int (nI (rq.2 + i))), (2, .int (nI (nvR T (rq.2) i))), (0, .ref (mm 0)), (1, .int (nI v))] := hl3
  show W p l e _ s m _ below meth c _ _ _ _ _ (F0 m 7 ls3 [])
  refine lv_iload_n hx hb dX7_sameNumber_7 rfl (lv_at hl3 0 rfl) ?_
  refine lv_aload_n hx hb dX7_sameNumber_8 rfl (lv_at hl3 2 rfl) ?_
  refine va_get (D := D) (ci := 7) (v := .int (nI (te T n (rq.2)))) (C := RX7) (T := TX7) (N := 23) hx hb hw iX7 hown hK hP1 0 rfl rfl 8 (by decide) (hw _ kw_4_72) (fun _ h9 => h9) rfl dX7_sameNumber_9 ?_
  refine ln_ge (tgt := 47) (rq.2 + i) (te T n (rq.2)) rfl rfl (by omega) (by omega) hx hb dX7_sameNumber_12 (by decide) (fun c_12 => ?_) (fun c_12 => ?_)
  · have hie : te T n (rq.2) - rq.2 = i := by omega
    have hsm := num_same (T := T) (n := n) (s := rq.2) hv
    rw [hie] at hsm
    have hnl9 : nvR T (rq.2) i ≤ 9999 := nvR_le (n := n) i (fun j9 a9 b9 => te_D_in hdi j9 a9 (by omega))
    refine lv_iload_n hx hb dX7_sameNumber_47 rfl (lv_at hl3 1 rfl) ?_
    refine lv_iload_n hx hb dX7_sameNumber_48 rfl (lv_at hl3 3 rfl) ?_
    refine ln_ne (tgt := 56) (nvR T (rq.2) i) v rfl rfl (by omega) (by omega) hx hb dX7_sameNumber_49 (by decide) (fun c_49 => ?_) (fun c_49 => ?_)
    · refine lv_iconst (v := 0) hx hb dX7_sameNumber_56 (by decide) ?_
      exact rd_z hx hb hr hlocks hS1 dX7_sameNumber_57 rfl ((b2i_f (fun z9 => c_49 (hsm.mpr z9))).symm)
    · refine lv_iconst (v := 1) hx hb dX7_sameNumber_52 (by decide) ?_
      refine lv_goto (tgt := 57) hx hb dX7_sameNumber_53 (by decide) ?_
      exact rd_z hx hb hr hlocks hS1 dX7_sameNumber_57 rfl ((b2i_t (hsm.mp c_49)).symm)
  · have hdi9 := te_D_in hdi (rq.2 + i) (by omega) c_12
    have hdg9 := dg_9 hdi9
    have hnl9 : nvR T (rq.2) i ≤ 9999 := nvR_le (n := n) i (fun j9 a9 b9 => te_D_in hdi j9 a9 (by omega))
    refine lv_iload_n hx hb dX7_sameNumber_15 rfl (lv_at hl3 1 rfl) ?_
    refine lv_sipush (v := 999) hx hb dX7_sameNumber_16 (by decide) ?_
    refine ln_le (tgt := 26) (nvR T (rq.2) i) 999 rfl rfl (by omega) (by omega) hx hb dX7_sameNumber_19 (by decide) (fun c_19 => ?_) (fun c_19 => ?_)
    · refine lv_bipush (v := 10) hx hb dX7_sameNumber_26 (by decide) ?_
      refine lv_iload_n hx hb dX7_sameNumber_28 rfl (lv_at hl3 1 rfl) ?_
      refine lv_imul hx hb dX7_sameNumber_29 ?_
      refine tp (show (10 * (nI (nvR T (rq.2) i))) = nI (10 * (nvR T (rq.2) i)) from pk_mul _ _) ?_
      refine lv_aload_n hx hb dX7_sameNumber_30 rfl (lv_at hl3 2 rfl) ?_
      refine va_get (D := D) (ci := 7) (v := .ref (mm 5)) (C := RX7) (T := TX7) (N := 23) hx hb hw iX7 hown hK hP1 0 rfl rfl 5 (by decide) (hw _ kw_4_69) (fun _ h9 => h9) rfl dX7_sameNumber_31 ?_
      refine lv_iload_n hx hb dX7_sameNumber_34 rfl (lv_at hl3 0 rfl) ?_
      refine ald_i (f := T) hx hb hK hP1 1 0 rfl rfl (rq.2 + i) rfl (by first | omega | assumption) (by decide) dX7_sameNumber_35 ?_
      refine tp (show (T (rq.2 + i)) = nI (dg T (rq.2 + i) + 48) from hdg9.2.1) ?_
      refine lv_iadd hx hb dX7_sameNumber_36 ?_
      refine tp (show ((nI (10 * (nvR T (rq.2) i))) + (nI (dg T (rq.2 + i) + 48))) = nI (10 * (nvR T (rq.2) i) + dg T (rq.2 + i) + 48) from nI_add _ _) ?_
      refine lv_bipush (v := 48) hx hb dX7_sameNumber_37 (by decide) ?_
      refine lv_isub hx hb dX7_sameNumber_39 ?_
      refine tp (show ((nI (10 * (nvR T (rq.2) i) + dg T (rq.2 + i) + 48)) - 48) = nI (10 * nvR T (rq.2) i + dg T (rq.2 + i)) from (pk_sub (b := 48) (by omega)).trans (congrArg nI (by omega))) ?_
      refine lv_istore_n (lv' := [(2, .int (nI (10 * nvR T (rq.2) i + dg T (rq.2 + i)))), (3, .int (nI (rq.2 + i))), (0, .ref (mm 0)), (1, .int (nI v))]) hx hb dX7_sameNumber_40 rfl hl3 (by decide) rfl (fun ls4 hl4 => ?_)
      clear hl3 ls3
      have hq9 : nI (nvR T (rq.2) (i + 1)) = nI (10 * nvR T (rq.2) i + dg T (rq.2 + i)) := congrArg nI (if_neg (by omega))
      replace hl4 : lv_has ls4 4 [(2, .int (nI (nvR T (rq.2) (i + 1)))), (3, .int (nI (rq.2 + i))), (0, .ref (mm 0)), (1, .int (nI v))] := (congrArg (fun z9 => lv_has ls4 4 [(2, .int z9), (3, .int (nI (rq.2 + i))), (0, .ref (mm 0)), (1, .int (nI v))]) hq9).mpr hl4
      clear hq9
      refine lv_iinc (v := nI (rq.2 + i + 1)) (lv' := [(3, .int (nI (rq.2 + i + 1))), (2, .int (nI (nvR T (rq.2) (i + 1)))), (0, .ref (mm 0)), (1, .int (nI v))]) hx hb dX7_sameNumber_41 hl4 (k := 1) rfl (nI_inc _) (by decide) rfl (fun ls5 hl5 => ?_)
      clear hl4 ls4
      refine lv_goto (tgt := 7) hx hb dX7_sameNumber_44 (by decide) ?_
      exact ih_7 (i + 1) ((by (try dsimp only); omega)) (by (try dsimp only); omega) H1 locs1 ls5 hP1 hS1 (lv_sub hl5 [0, 1, 2, 3] rfl)
    · refine lv_iload_n hx hb dX7_sameNumber_22 rfl (lv_at hl3 1 rfl) ?_
      refine lv_goto (tgt := 40) hx hb dX7_sameNumber_23 (by decide) ?_
      refine lv_istore_n (lv' := [(2, .int (nI (nvR T (rq.2) i))), (3, .int (nI (rq.2 + i))), (0, .ref (mm 0)), (1, .int (nI v))]) hx hb dX7_sameNumber_40 rfl hl3 (by decide) rfl (fun ls4 hl4 => ?_)
      clear hl3 ls3
      have hq9 : nI (nvR T (rq.2) (i + 1)) = nI (nvR T (rq.2) i) := congrArg nI (if_pos (by omega))
      replace hl4 : lv_has ls4 4 [(2, .int (nI (nvR T (rq.2) (i + 1)))), (3, .int (nI (rq.2 + i))), (0, .ref (mm 0)), (1, .int (nI v))] := (congrArg (fun z9 => lv_has ls4 4 [(2, .int z9), (3, .int (nI (rq.2 + i))), (0, .ref (mm 0)), (1, .int (nI v))]) hq9).mpr hl4
      clear hq9
      refine lv_iinc (v := nI (rq.2 + i + 1)) (lv' := [(3, .int (nI (rq.2 + i + 1))), (2, .int (nI (nvR T (rq.2) (i + 1)))), (0, .ref (mm 0)), (1, .int (nI v))]) hx hb dX7_sameNumber_41 hl4 (k := 1) rfl (nI_inc _) (by decide) rfl (fun ls5 hl5 => ?_)
      clear hl4 ls4
      refine lv_goto (tgt := 7) hx hb dX7_sameNumber_44 (by decide) ?_
      exact ih_7 (i + 1) ((by (try dsimp only); omega)) (by (try dsimp only); omega) H1 locs1 ls5 hP1 hS1 (lv_sub hl5 [0, 1, 2, 3] rfl)
