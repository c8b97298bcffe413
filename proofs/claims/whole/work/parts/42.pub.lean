theorem kc_X7_stop : kV yX7_stop cX7_stop 11 (some .int) 4 := ⟨kw_5_138, kw_5_139, kw_1_8, kw_5_140, by decide, by decide, by decide +kernel⟩
set_option maxHeartbeats 4000000 in
set_option maxRecDepth 100000 in
theorem c_X7_stop (l : Launch) (D : va_G) (cy : Nat → ClassId) (G : Nat → Nat) (sz : Nat) (mm : Nat → Nat) (ik : Int32) (tl : Int32) (fm : Int32) (tz : Int32) (vl : Int32) (iw : Int32) (rm : Int32) (rr : Int32) (om : Int32) (S : Nat → Int32) (C : Nat → Int32) (P : Nat → Int32) (N : Nat → Int32) (x1 : Int32) (x2 : Int32) (x3 : Int32) (x4 : Int32) (wf : wf S) : Met l yX7_stop (wm yX7_stop cX7_stop 11 (some .int)) { frames := 5, cells := 0, slots := 0, locals := 113 } (va_Pc [.ref (mm 0), .int x1, .int x2, .int x3, .int x4] (pr D (TY cy) G ([mO cy mm ik tl fm tz vl iw rm rr om, ia cy (mm 1) 169 S, ia cy (mm 4) 7 C, ia cy (mm 6) 6 P, ia cy (mm 7) 6 N]) sz)) (va_Qi (fun (r : Int32) (u : (Nat → Int32) × (Nat → Int32) × Int32 × Int32) => r = ans (cStop S x1 x2 x3 x4) (vStop S (ux x1) x2 x3 x4)) (fun (u : (Nat → Int32) × (Nat → Int32) × Int32 × Int32) t => po D (va_A ([mO cy mm ik tl fm tz vl iw rm rr om, ia cy (mm 1) 169 S, ia cy (mm 4) 7 C, ia cy (mm 6) 6 P, ia cy (mm 7) 6 N]) sz) ([mO cy mm ik tl fm tz vl iw u.2.2.1 u.2.2.2 om, ia cy (mm 1) 169 S, ia cy (mm 4) 7 (fnd C (cStop S x1 x2 x3 x4)), ia cy (mm 6) 6 u.1, ia cy (mm 7) 6 u.2.1]) t) (va_A ([mO cy mm ik tl fm tz vl iw rm rr om, ia cy (mm 1) 169 S, ia cy (mm 4) 7 C, ia cy (mm 6) 6 P, ia cy (mm 7) 6 N]) sz)) 0 0 (va_A ([mO cy mm ik tl fm tz vl iw rm rr om, ia cy (mm 1) 169 S, ia cy (mm 4) 7 C, ia cy (mm 6) 6 P, ia cy (mm 7) 6 N]) sz) := by
  refine mk_rw (by decide) RX7 rfl (Nat.le_of_ble_eq_true rfl) [(0, .ref (mm 0)), (1, .int x1), (2, .int x2), (3, .int x3), (4, .int x4)] rfl ?_
  intro p e s m below meth c hx hb hml hown hr hlocks hin hw hsz hA hG hK H0 locs0 hP0 hD0 hS0 ls0 hl0
  clear hin
  have hg20 := wf_g20 wf
  have hr6 := wf_r6 wf
  obtain ⟨sn, hm, rfl⟩ : ∃ sn, sn < 2 ^ 32 ∧ x1 = nI sn := ⟨_, (nI_all x1).2, (nI_all x1).1⟩
  have hux : ux (nI sn) = sn := nI_u hm
  refine lv_aload_n hx hb dX7_stop_0 rfl (lv_at hl0 0 rfl) ?_
  refine lv_iload_n hx hb dX7_stop_1 rfl (lv_at hl0 1 rfl) ?_
  refine rV_i (wc := [mO cy mm ik tl fm tz vl iw rm rr om, ia cy (mm 1) 169 S]) (rest := []) hx hb hml hown hw hG hK hP0 hS0 hA hl0 kc_X7_isStopping kw_5_141 [.int (nI sn)] (c_X7_isStopping l D cy G H0.size mm ik tl fm tz vl iw rm rr om S sn (by first | omega | assumption) (by first | omega | assumption)) [0, 1] rfl 0 rfl rfl rfl rfl rfl (Nat.le_of_ble_eq_true rfl) ⟨Nat.le_of_ble_eq_true rfl, Nat.le_of_ble_eq_true rfl⟩ dX7_stop_2 ⟨Nat.le_of_ble_eq_true rfl, Nat.le_of_ble_eq_true rfl⟩ (fun r_2 H1 locs1 hr_2 hP1 hS1 => ?_)
  have hD1 := hD0
  clear hP0 hD0 hS0 locs0 H0
  subst hr_2
  refine lb_eq (tgt := 45) hx hb dX7_stop_5 (by decide) (fun c_5 => ?_) (fun c_5 => ?_)
  · refine lv_aload_n hx hb dX7_stop_45 rfl (lv_at hl0 0 rfl) ?_
    refine lv_ldc (v := (-1000000001)) hx hb hown (hw _ kw_4_143) dX7_stop_46 ?_
    refine cV_i (wc := [mO cy mm ik tl fm tz vl iw rm rr om, ia cy (mm 4) 7 C]) (wr := [ia cy (mm 1) 169 S, ia cy (mm 6) 6 P, ia cy (mm 7) 6 N]) (rest := []) hx hb hml hown hw hG hK hP1 hD1 hS1 hA hl0 kc_X7_finds kw_4_139 [.int (-1000000001)] (c_X7_finds l D cy G H1.size mm ik tl fm tz vl iw rm rr om C 0 (-1000000001) (by decide) (by decide)) [0, 2] [1, 3, 4] rfl rfl rfl rfl rfl 0 rfl rfl rfl rfl rfl (Nat.le_of_ble_eq_true rfl) ⟨Nat.le_of_ble_eq_true rfl, Nat.le_of_ble_eq_true rfl⟩ dX7_stop_48 ⟨Nat.le_of_ble_eq_true rfl, Nat.le_of_ble_eq_true rfl⟩ (fun r_48 u9 H2 locs2 hu9 hP2 hD2 hS2 => ?_)
    clear hP1 hD1 hS1 locs1 H1
    have hr_48 := hu9
    replace hP2 : va_P D vwCl ([ia cy (mm 1) 169 S, ia cy (mm 6) 6 P, ia cy (mm 7) 6 N, mO cy mm ik tl fm tz vl iw rm rr om, ia cy (mm 4) 7 (upd C 0 (C 0 + 1))]) H2 := hP2
    replace hD2 : va_D (va_A _ sz) ([ia cy (mm 1) 169 S, ia cy (mm 6) 6 P, ia cy (mm 7) 6 N, mO cy mm ik tl fm tz vl iw rm rr om, ia cy (mm 4) 7 (upd C 0 (C 0 + 1))]) := hD2
    replace hP2 := hP2.sub (ws' := [mO cy mm ik tl fm tz vl iw rm rr om, ia cy (mm 1) 169 S, ia cy (mm 4) 7 (upd C 0 (C 0 + 1)), ia cy (mm 6) 6 P, ia cy (mm 7) 6 N]) [3, 0, 4, 1, 2] rfl
    replace hD2 := hD2.sub (ws' := [mO cy mm ik tl fm tz vl iw rm rr om, ia cy (mm 1) 169 S, ia cy (mm 4) 7 (upd C 0 (C 0 + 1)), ia cy (mm 6) 6 P, ia cy (mm 7) 6 N]) [3, 0, 4, 1, 2] (by decide) rfl
    subst hr_48
    have hcd : cStop S (nI sn) x2 x3 x4 = 0 := by unfold cStop; rw [hux]; clear hx hb hml hown hr hlocks hw hsz hA hG hK hP2 hD2 hS2 hl0; grind
    have hq9 : ([mO cy mm ik tl fm tz vl iw rm rr om, ia cy (mm 1) 169 S, ia cy (mm 4) 7 (upd C 0 (C 0 + 1)), ia cy (mm 6) 6 P, ia cy (mm 7) 6 N]) = ([mO cy mm ik tl fm tz vl iw rm rr om, ia cy (mm 1) 169 S, ia cy (mm 4) 7 (fnd C (cStop S (nI sn) x2 x3 x4)), ia cy (mm 6) 6 P, ia cy (mm 7) 6 N]) := congrArg (fun z9 => [mO cy mm ik tl fm tz vl iw rm rr om, ia cy (mm 1) 169 S, ia cy (mm 4) 7 z9, ia cy (mm 6) 6 P, ia cy (mm 7) 6 N]) (show (upd C 0 (C 0 + 1)) = (fnd C (cStop S (nI sn) x2 x3 x4)) from fnd_f hcd (by decide))
    replace hP2 := (congrArg (fun z9 => va_P D vwCl z9 _) hq9).mp hP2
    replace hD2 := (congrArg (fun z9 => va_D _ z9) hq9).mp hD2
    clear hq9
    refine re_i (P, N, rm, rr) hx hb hr hlocks hP2 hD2 hS2 dX7_stop_51 ?_
    exact (ans_f hcd (by decide) rfl)
  · refine lv_iload_n hx hb dX7_stop_8 rfl (lv_at hl0 2 rfl) ?_
    refine lv_i2l hx hb dX7_stop_9 rfl ?_
    refine lv_lconst (v := 0) hx hb dX7_stop_10 (by decide) ?_
    refine lv_ldc2 (v := 999) hx hb hown (hw _ kw_5_148) dX7_stop_11 ?_
    refine rT_i (wc := []) (rest := []) hx hb hml hown hw hG hK hP1 hS1 hA hl0 kc_X7_in kw_4_153 [.long x2.toInt64, .long 0, .long 999] (c_X7_in l D cy G H1.size x2.toInt64 0 999) [] rfl rfl rfl (Nat.le_of_ble_eq_true rfl) ⟨Nat.le_of_ble_eq_true rfl, Nat.le_of_ble_eq_true rfl⟩ dX7_stop_14 ⟨Nat.le_of_ble_eq_true rfl, Nat.le_of_ble_eq_true rfl⟩ (fun r_14 H2 locs2 hr_14 hP2 hS2 => ?_)
    have hD2 := hD1
    clear hP1 hD1 hS1 locs1 H1
    subst hr_14
    refine tp (show (b2i (0 ≤ x2.toInt64 ∧ x2.toInt64 ≤ 999)) = b2i (0 ≤ x2 ∧ x2 ≤ 999) from b2i_iff (in_c (by decide) (by decide))) ?_
    refine lb_eq (tgt := 45) hx hb dX7_stop_17 (by decide) (fun c_17 => ?_) (fun c_17 => ?_)
    · refine lv_aload_n hx hb dX7_stop_45 rfl (lv_at hl0 0 rfl) ?_
      refine lv_ldc (v := (-1000000001)) hx hb hown (hw _ kw_4_143) dX7_stop_46 ?_
      refine cV_i (wc := [mO cy mm ik tl fm tz vl iw rm rr om, ia cy (mm 4) 7 C]) (wr := [ia cy (mm 1) 169 S, ia cy (mm 6) 6 P, ia cy (mm 7) 6 N]) (rest := []) hx hb hml hown hw hG hK hP2 hD2 hS2 hA hl0 kc_X7_finds kw_4_139 [.int (-1000000001)] (c_X7_finds l D cy G H2.size mm ik tl fm tz vl iw rm rr om C 0 (-1000000001) (by decide) (by decide)) [0, 2] [1, 3, 4] rfl rfl rfl rfl rfl 0 rfl rfl rfl rfl rfl (Nat.le_of_ble_eq_true rfl) ⟨Nat.le_of_ble_eq_true rfl, Nat.le_of_ble_eq_true rfl⟩ dX7_stop_48 ⟨Nat.le_of_ble_eq_true rfl, Nat.le_of_ble_eq_true rfl⟩ (fun r_48 u9 H3 locs3 hu9 hP3 hD3 hS3 => ?_)
      clear hP2 hD2 hS2 locs2 H2
      have hr_48 := hu9
      replace hP3 : va_P D vwCl ([ia cy (mm 1) 169 S, ia cy (mm 6) 6 P, ia cy (mm 7) 6 N, mO cy mm ik tl fm tz vl iw rm rr om, ia cy (mm 4) 7 (upd C 0 (C 0 + 1))]) H3 := hP3
      replace hD3 : va_D (va_A _ sz) ([ia cy (mm 1) 169 S, ia cy (mm 6) 6 P, ia cy (mm 7) 6 N, mO cy mm ik tl fm tz vl iw rm rr om, ia cy (mm 4) 7 (upd C 0 (C 0 + 1))]) := hD3
      replace hP3 := hP3.sub (ws' := [mO cy mm ik tl fm tz vl iw rm rr om, ia cy (mm 1) 169 S, ia cy (mm 4) 7 (upd C 0 (C 0 + 1)), ia cy (mm 6) 6 P, ia cy (mm 7) 6 N]) [3, 0, 4, 1, 2] rfl
      replace hD3 := hD3.sub (ws' := [mO cy mm ik tl fm tz vl iw rm rr om, ia cy (mm 1) 169 S, ia cy (mm 4) 7 (upd C 0 (C 0 + 1)), ia cy (mm 6) 6 P, ia cy (mm 7) 6 N]) [3, 0, 4, 1, 2] (by decide) rfl
      subst hr_48
      have hcd : cStop S (nI sn) x2 x3 x4 = 0 := by unfold cStop; rw [hux]; clear hx hb hml hown hr hlocks hw hsz hA hG hK hP3 hD3 hS3 hl0; grind
      have hq9 : ([mO cy mm ik tl fm tz vl iw rm rr om, ia cy (mm 1) 169 S, ia cy (mm 4) 7 (upd C 0 (C 0 + 1)), ia cy (mm 6) 6 P, ia cy (mm 7) 6 N]) = ([mO cy mm ik tl fm tz vl iw rm rr om, ia cy (mm 1) 169 S, ia cy (mm 4) 7 (fnd C (cStop S (nI sn) x2 x3 x4)), ia cy (mm 6) 6 P, ia cy (mm 7) 6 N]) := congrArg (fun z9 => [mO cy mm ik tl fm tz vl iw rm rr om, ia cy (mm 1) 169 S, ia cy (mm 4) 7 z9, ia cy (mm 6) 6 P, ia cy (mm 7) 6 N]) (show (upd C 0 (C 0 + 1)) = (fnd C (cStop S (nI sn) x2 x3 x4)) from fnd_f hcd (by decide))
      replace hP3 := (congrArg (fun z9 => va_P D vwCl z9 _) hq9).mp hP3
      replace hD3 := (congrArg (fun z9 => va_D _ z9) hq9).mp hD3
      clear hq9
      refine re_i (P, N, rm, rr) hx hb hr hlocks hP3 hD3 hS3 dX7_stop_51 ?_
      exact (ans_f hcd (by decide) rfl)
    · refine lv_iload_n hx hb dX7_stop_20 rfl (lv_at hl0 3 rfl) ?_
      refine lv_i2l hx hb dX7_stop_21 rfl ?_
      refine lv_lconst (v := 0) hx hb dX7_stop_22 (by decide) ?_
      refine lv_ldc2 (v := 99999) hx hb hown (hw _ kw_5_149) dX7_stop_23 ?_
      refine rT_i (wc := []) (rest := []) hx hb hml hown hw hG hK hP2 hS2 hA hl0 kc_X7_in kw_4_153 [.long x3.toInt64, .long 0, .long 99999] (c_X7_in l D cy G H2.size x3.toInt64 0 99999) [] rfl rfl rfl (Nat.le_of_ble_eq_true rfl) ⟨Nat.le_of_ble_eq_true rfl, Nat.le_of_ble_eq_true rfl⟩ dX7_stop_26 ⟨Nat.le_of_ble_eq_true rfl, Nat.le_of_ble_eq_true rfl⟩ (fun r_26 H3 locs3 hr_26 hP3 hS3 => ?_)
      have hD3 := hD2
      clear hP2 hD2 hS2 locs2 H2
      subst hr_26
      refine tp (show (b2i (0 ≤ x3.toInt64 ∧ x3.toInt64 ≤ 99999)) = b2i (0 ≤ x3 ∧ x3 ≤ 99999) from b2i_iff (in_c (by decide) (by decide))) ?_
      refine lb_eq (tgt := 45) hx hb dX7_stop_29 (by decide) (fun c_29 => ?_) (fun c_29 => ?_)
      · refine lv_aload_n hx hb dX7_stop_45 rfl (lv_at hl0 0 rfl) ?_
        refine lv_ldc (v := (-1000000001)) hx hb hown (hw _ kw_4_143) dX7_stop_46 ?_
        refine cV_i (wc := [mO cy mm ik tl fm tz vl iw rm rr om, ia cy (mm 4) 7 C]) (wr := [ia cy (mm 1) 169 S, ia cy (mm 6) 6 P, ia cy (mm 7) 6 N]) (rest := []) hx hb hml hown hw hG hK hP3 hD3 hS3 hA hl0 kc_X7_finds kw_4_139 [.int (-1000000001)] (c_X7_finds l D cy G H3.size mm ik tl fm tz vl iw rm rr om C 0 (-1000000001) (by decide) (by decide)) [0, 2] [1, 3, 4] rfl rfl rfl rfl rfl 0 rfl rfl rfl rfl rfl (Nat.le_of_ble_eq_true rfl) ⟨Nat.le_of_ble_eq_true rfl, Nat.le_of_ble_eq_true rfl⟩ dX7_stop_48 ⟨Nat.le_of_ble_eq_true rfl, Nat.le_of_ble_eq_true rfl⟩ (fun r_48 u9 H4 locs4 hu9 hP4 hD4 hS4 => ?_)
        clear hP3 hD3 hS3 locs3 H3
        have hr_48 := hu9
        replace hP4 : va_P D vwCl ([ia cy (mm 1) 169 S, ia cy (mm 6) 6 P, ia cy (mm 7) 6 N, mO cy mm ik tl fm tz vl iw rm rr om, ia cy (mm 4) 7 (upd C 0 (C 0 + 1))]) H4 := hP4
        replace hD4 : va_D (va_A _ sz) ([ia cy (mm 1) 169 S, ia cy (mm 6) 6 P, ia cy (mm 7) 6 N, mO cy mm ik tl fm tz vl iw rm rr om, ia cy (mm 4) 7 (upd C 0 (C 0 + 1))]) := hD4
        replace hP4 := hP4.sub (ws' := [mO cy mm ik tl fm tz vl iw rm rr om, ia cy (mm 1) 169 S, ia cy (mm 4) 7 (upd C 0 (C 0 + 1)), ia cy (mm 6) 6 P, ia cy (mm 7) 6 N]) [3, 0, 4, 1, 2] rfl
        replace hD4 := hD4.sub (ws' := [mO cy mm ik tl fm tz vl iw rm rr om, ia cy (mm 1) 169 S, ia cy (mm 4) 7 (upd C 0 (C 0 + 1)), ia cy (mm 6) 6 P, ia cy (mm 7) 6 N]) [3, 0, 4, 1, 2] (by decide) rfl
        subst hr_48
        have hcd : cStop S (nI sn) x2 x3 x4 = 0 := by unfold cStop; rw [hux]; clear hx hb hml hown hr hlocks hw hsz hA hG hK hP4 hD4 hS4 hl0; grind
        have hq9 : ([mO cy mm ik tl fm tz vl iw rm rr om, ia cy (mm 1) 169 S, ia cy (mm 4) 7 (upd C 0 (C 0 + 1)), ia cy (mm 6) 6 P, ia cy (mm 7) 6 N]) = ([mO cy mm ik tl fm tz vl iw rm rr om, ia cy (mm 1) 169 S, ia cy (mm 4) 7 (fnd C (cStop S (nI sn) x2 x3 x4)), ia cy (mm 6) 6 P, ia cy (mm 7) 6 N]) := congrArg (fun z9 => [mO cy mm ik tl fm tz vl iw rm rr om, ia cy (mm 1) 169 S, ia cy (mm 4) 7 z9, ia cy (mm 6) 6 P, ia cy (mm 7) 6 N]) (show (upd C 0 (C 0 + 1)) = (fnd C (cStop S (nI sn) x2 x3 x4)) from fnd_f hcd (by decide))
        replace hP4 := (congrArg (fun z9 => va_P D vwCl z9 _) hq9).mp hP4
        replace hD4 := (congrArg (fun z9 => va_D _ z9) hq9).mp hD4
        clear hq9
        refine re_i (P, N, rm, rr) hx hb hr hlocks hP4 hD4 hS4 dX7_stop_51 ?_
        exact (ans_f hcd (by decide) rfl)
      · refine lv_iload hx hb dX7_stop_32 (lv_at hl0 4 rfl) ?_
        refine lv_i2l hx hb dX7_stop_34 rfl ?_
        refine lv_lconst (v := 0) hx hb dX7_stop_35 (by decide) ?_
        refine lv_ldc2 (v := 2) hx hb hown (hw _ kw_5_131) dX7_stop_36 ?_
        refine rT_i (wc := []) (rest := []) hx hb hml hown hw hG hK hP3 hS3 hA hl0 kc_X7_in kw_4_153 [.long x4.toInt64, .long 0, .long 2] (c_X7_in l D cy G H3.size x4.toInt64 0 2) [] rfl rfl rfl (Nat.le_of_ble_eq_true rfl) ⟨Nat.le_of_ble_eq_true rfl, Nat.le_of_ble_eq_true rfl⟩ dX7_stop_39 ⟨Nat.le_of_ble_eq_true rfl, Nat.le_of_ble_eq_true rfl⟩ (fun r_39 H4 locs4 hr_39 hP4 hS4 => ?_)
        have hD4 := hD3
        clear hP3 hD3 hS3 locs3 H3
        subst hr_39
        refine tp (show (b2i (0 ≤ x4.toInt64 ∧ x4.toInt64 ≤ 2)) = b2i (0 ≤ x4 ∧ x4 ≤ 2) from b2i_iff (in_c (by decide) (by decide))) ?_
        refine lb_ne (tgt := 52) hx hb dX7_stop_42 (by decide) (fun c_42 => ?_) (fun c_42 => ?_)
        · have hok := st_ok wf c_5
          have hm20 := hok.1
          obtain ⟨np, hnp⟩ : ∃ np, np = 2 ^ pop sn := ⟨_, rfl⟩
          have hnq : np = 2 ^ popc 32 sn := hnp
          have hnp0 : 0 < np := by rw [hnp]; exact Nat.two_pow_pos _
          have hnp1 : np ≤ 1024 := by rw [hnp]; exact hok.2.1
          have hq0 : 0 < np → (0 : Int32) = nI (dep 32 sn 0) := fun _ => by rw [dep_0]; rfl
          refine lv_iconst (v := (-1)) hx hb dX7_stop_52 (by decide) ?_
          refine lv_istore (lv' := [(5, .int (-1)), (0, .ref (mm 0)), (1, .int (nI sn)), (2, .int x2), (3, .int x3), (4, .int x4)]) hx hb dX7_stop_53 hl0 (by decide) rfl (fun ls1 hl1 => ?_)
          clear hl0 ls0
          refine lv_iconst (v := 0) hx hb dX7_stop_55 (by decide) ?_
          refine lv_istore (lv' := [(6, .int 0), (5, .int (-1)), (0, .ref (mm 0)), (1, .int (nI sn)), (2, .int x2), (3, .int x3), (4, .int x4)]) hx hb dX7_stop_56 hl1 (by decide) rfl (fun ls2 hl2 => ?_)
          clear hl1 ls1
          refine lv_iconst (v := 0) hx hb dX7_stop_58 (by decide) ?_
          refine lv_istore (lv' := [(7, .int 0), (6, .int 0), (5, .int (-1)), (0, .ref (mm 0)), (1, .int (nI sn)), (2, .int x2), (3, .int x3), (4, .int x4)]) hx hb dX7_stop_59 hl2 (by decide) rfl (fun ls3 hl3 => ?_)
          clear hl2 ls2
          refine lv_iconst (v := 1) hx hb dX7_stop_61 (by decide) ?_
          refine lv_istore (lv' := [(8, .int 1), (7, .int 0), (6, .int 0), (5, .int (-1)), (0, .ref (mm 0)), (1, .int (nI sn)), (2, .int x2), (3, .int x3), (4, .int x4)]) hx hb dX7_stop_62 hl3 (by decide) rfl (fun ls4 hl4 => ?_)
          clear hl3 ls3
          have hq9 : spB S sn x2 x3 0 = -1 := rfl
          replace hl4 : lv_has ls4 11 [(8, .int 1), (7, .int 0), (6, .int 0), (5, .int (spB S sn x2 x3 0)), (0, .ref (mm 0)), (1, .int (nI sn)), (2, .int x2), (3, .int x3), (4, .int x4)] := (congrArg (fun z9 => lv_has ls4 11 [(8, .int 1), (7, .int 0), (6, .int 0), (5, .int z9), (0, .ref (mm 0)), (1, .int (nI sn)), (2, .int x2), (3, .int x3), (4, .int x4)]) hq9).mpr hl4
          clear hq9
          have hq9 : spL S sn x2 x3 0 = 0 := rfl
          replace hl4 : lv_has ls4 11 [(8, .int 1), (7, .int 0), (6, .int (spL S sn x2 x3 0)), (5, .int (spB S sn x2 x3 0)), (0, .ref (mm 0)), (1, .int (nI sn)), (2, .int x2), (3, .int x3), (4, .int x4)] := (congrArg (fun z9 => lv_has ls4 11 [(8, .int 1), (7, .int 0), (6, .int z9), (5, .int (spB S sn x2 x3 0)), (0, .ref (mm 0)), (1, .int (nI sn)), (2, .int x2), (3, .int x3), (4, .int x4)]) hq9).mpr hl4
          clear hq9
          have hq9 : b2i (0 < np) = 1 := b2i_t hnp0
          replace hl4 : lv_has ls4 11 [(8, .int (b2i (0 < np))), (7, .int 0), (6, .int (spL S sn x2 x3 0)), (5, .int (spB S sn x2 x3 0)), (0, .ref (mm 0)), (1, .int (nI sn)), (2, .int x2), (3, .int x3), (4, .int x4)] := (congrArg (fun z9 => lv_has ls4 11 [(8, .int z9), (7, .int 0), (6, .int (spL S sn x2 x3 0)), (5, .int (spB S sn x2 x3 0)), (0, .ref (mm 0)), (1, .int (nI sn)), (2, .int x2), (3, .int x3), (4, .int x4)]) hq9).mpr hl4
          clear hq9
          refine wlp (ι := Nat × Int32 × (Nat → Int32) × (Nat → Int32) × Int32 × Int32) (nL := 11) (fun x9 => (x9.1 ≤ np) ∧ (x9.1 < np → x9.2.1 = nI (dep 32 sn x9.1))) (fun x9 => [mO cy mm ik tl fm tz vl iw x9.2.2.2.2.1 x9.2.2.2.2.2 om, ia cy (mm 1) 169 S, ia cy (mm 4) 7 C, ia cy (mm 6) 6 x9.2.2.1, ia cy (mm 7) 6 x9.2.2.2.1]) (fun x9 => [(8, .int (b2i (x9.1 < np))), (7, .int x9.2.1), (6, .int (spL S sn x2 x3 x9.1)), (5, .int (spB S sn x2 x3 x9.1)), (0, .ref (mm 0)), (1, .int (nI sn)), (2, .int x2), (3, .int x3), (4, .int x4)]) (fun x9 => []) (fun x9 => np - x9.1) 64 ?_ (0, 0, P, N, rm, rr) (⟨Nat.zero_le _, hq0⟩) rfl hP4 hD4 hS4 (lv_sub hl4 [0, 1, 2, 3, 4, 5, 6, 7, 8] rfl)
          clear hP4 hD4 hS4 locs4 H4 hl4 ls4
          intro x9 hI ih_64 H5 locs5 ls5 hP5 hD5 hS5 hl5
          obtain ⟨k, q1, P1, N1, rm1, rr1⟩ := x9
          obtain ⟨hk, hq⟩ := hI
          replace hk : k ≤ np := hk
          replace hq : k < np → q1 = nI (dep 32 sn k) := hq
          replace hP5 : va_P D vwCl ([mO cy mm ik tl fm tz vl iw rm1 rr1 om, ia cy (mm 1) 169 S, ia cy (mm 4) 7 C, ia cy (mm 6) 6 P1, ia cy (mm 7) 6 N1]) H5 := hP5
          replace hD5 : va_D (va_A _ sz) ([mO cy mm ik tl fm tz vl iw rm1 rr1 om, ia cy (mm 1) 169 S, ia cy (mm 4) 7 C, ia cy (mm 6) 6 P1, ia cy (mm 7) 6 N1]) := hD5
          replace hl5 : lv_has ls5 11 [(8, .int (b2i (k < np))), (7, .int q1), (6, .int (spL S sn x2 x3 k)), (5, .int (spB S sn x2 x3 k)), (0, .ref (mm 0)), (1, .int (nI sn)), (2, .int x2), (3, .int x3), (4, .int x4)] := hl5
          show W p l e _ s m _ below meth c _ _ _ _ _ (F0 m 64 ls5 [])
          refine lv_iload hx hb dX7_stop_64 (lv_at hl5 0 rfl) ?_
          refine lb_eq (tgt := 194) hx hb dX7_stop_66 (by decide) (fun c_66 => ?_) (fun c_66 => ?_)
          · obtain rfl : np = k := (by omega)
            have hbe := fun z9 => spB_b (S := S) (m := sn) (k := np) (co := x2) (le := x3) hm20 z9
            refine lv_iload hx hb dX7_stop_194 (lv_at hl5 3 rfl) ?_
            refine lv_if_ge (tgt := 208) hx hb dX7_stop_196 (by decide) (fun c_196 => ?_) (fun c_196 => ?_)
            · refine lv_iload hx hb dX7_stop_208 (lv_at hl5 8 rfl) ?_
              refine lv_if_ne (tgt := 218) hx hb dX7_stop_210 (by decide) (fun c_210 => ?_) (fun c_210 => ?_)
              · refine lv_iload hx hb dX7_stop_218 (lv_at hl5 8 rfl) ?_
                refine lv_iconst (v := 1) hx hb dX7_stop_220 (by decide) ?_
                refine lv_icmp_ne (tgt := 229) hx hb dX7_stop_221 (by decide) (fun c_221 => ?_) (fun c_221 => ?_)
                · refine lv_aload_n hx hb dX7_stop_229 rfl (lv_at hl5 4 rfl) ?_
                  refine lv_iload hx hb dX7_stop_230 (lv_at hl5 3 rfl) ?_
                  refine tp (show (spB S sn x2 x3 np) = nI (bstN (spB S sn x2 x3 np)) from (hbe (Int32.not_lt.mpr c_196)).1) ?_
                  refine rV_i (wc := [mO cy mm ik tl fm tz vl iw rm1 rr1 om, ia cy (mm 1) 169 S]) (rest := []) hx hb hml hown hw hG hK hP5 hS5 hA hl5 kc_X7_costs kw_5_150 [.int (nI (bstN (spB S sn x2 x3 np)))] (c_X7_costs l D cy G H5.size mm ik tl fm tz vl iw rm1 rr1 om S (bstN (spB S sn x2 x3 np)) wf (by have := (hbe (Int32.not_lt.mpr c_196)).2; omega)) [0, 1] rfl 0 rfl rfl rfl rfl rfl (Nat.le_of_ble_eq_true rfl) ⟨Nat.le_of_ble_eq_true rfl, Nat.le_of_ble_eq_true rfl⟩ dX7_stop_232 ⟨Nat.le_of_ble_eq_true rfl, Nat.le_of_ble_eq_true rfl⟩ (fun r_232 H6 locs6 hr_232 hP6 hS6 => ?_)
                  have hD6 := hD5
                  clear hP5 hD5 hS5 locs5 H5
                  subst hr_232
                  have hcd : cStop S (nI sn) x2 x3 x4 = 7 := by unfold cStop; rw [hux, ← hnp]; clear hx hb hml hown hr hlocks hw hsz hA hG hK hP6 hD6 hS6 hl5 ih_64; grind
                  have hq9 : ([mO cy mm ik tl fm tz vl iw rm1 rr1 om, ia cy (mm 1) 169 S, ia cy (mm 4) 7 C, ia cy (mm 6) 6 P1, ia cy (mm 7) 6 N1]) = ([mO cy mm ik tl fm tz vl iw rm1 rr1 om, ia cy (mm 1) 169 S, ia cy (mm 4) 7 (fnd C (cStop S (nI sn) x2 x3 x4)), ia cy (mm 6) 6 P1, ia cy (mm 7) 6 N1]) := congrArg (fun z9 => [mO cy mm ik tl fm tz vl iw rm1 rr1 om, ia cy (mm 1) 169 S, ia cy (mm 4) 7 z9, ia cy (mm 6) 6 P1, ia cy (mm 7) 6 N1]) (show C = (fnd C (cStop S (nI sn) x2 x3 x4)) from fnd_o hcd)
                  replace hP6 := (congrArg (fun z9 => va_P D vwCl z9 _) hq9).mp hP6
                  replace hD6 := (congrArg (fun z9 => va_D _ z9) hq9).mp hD6
                  clear hq9
                  refine re_i (P1, N1, rm1, rr1) hx hb hr hlocks hP6 hD6 hS6 dX7_stop_235 ?_
                  exact (ans_o hcd (by rw [hux]; unfold vStop; rw [← hnp]; clear hx hb hml hown hr hlocks hw hsz hA hG hK hP6 hD6 hS6 hl5 ih_64; grind))
                · refine lv_iload hx hb dX7_stop_224 (lv_at hl5 2 rfl) ?_
                  refine lv_goto (tgt := 235) hx hb dX7_stop_226 (by decide) ?_
                  have hcd : cStop S (nI sn) x2 x3 x4 = 7 := by unfold cStop; rw [hux, ← hnp]; clear hx hb hml hown hr hlocks hw hsz hA hG hK hP5 hD5 hS5 hl5 ih_64; grind
                  have hq9 : ([mO cy mm ik tl fm tz vl iw rm1 rr1 om, ia cy (mm 1) 169 S, ia cy (mm 4) 7 C, ia cy (mm 6) 6 P1, ia cy (mm 7) 6 N1]) = ([mO cy mm ik tl fm tz vl iw rm1 rr1 om, ia cy (mm 1) 169 S, ia cy (mm 4) 7 (fnd C (cStop S (nI sn) x2 x3 x4)), ia cy (mm 6) 6 P1, ia cy (mm 7) 6 N1]) := congrArg (fun z9 => [mO cy mm ik tl fm tz vl iw rm1 rr1 om, ia cy (mm 1) 169 S, ia cy (mm 4) 7 z9, ia cy (mm 6) 6 P1, ia cy (mm 7) 6 N1]) (show C = (fnd C (cStop S (nI sn) x2 x3 x4)) from fnd_o hcd)
                  replace hP5 := (congrArg (fun z9 => va_P D vwCl z9 _) hq9).mp hP5
                  replace hD5 := (congrArg (fun z9 => va_D _ z9) hq9).mp hD5
                  clear hq9
                  refine re_i (P1, N1, rm1, rr1) hx hb hr hlocks hP5 hD5 hS5 dX7_stop_235 ?_
                  exact (ans_o hcd (by rw [hux]; unfold vStop; rw [← hnp]; clear hx hb hml hown hr hlocks hw hsz hA hG hK hP5 hD5 hS5 hl5 ih_64; grind))
              · refine lv_iload hx hb dX7_stop_213 (lv_at hl5 3 rfl) ?_
                refine lv_goto (tgt := 235) hx hb dX7_stop_215 (by decide) ?_
                have hcd : cStop S (nI sn) x2 x3 x4 = 7 := by unfold cStop; rw [hux, ← hnp]; clear hx hb hml hown hr hlocks hw hsz hA hG hK hP5 hD5 hS5 hl5 ih_64; grind
                have hq9 : ([mO cy mm ik tl fm tz vl iw rm1 rr1 om, ia cy (mm 1) 169 S, ia cy (mm 4) 7 C, ia cy (mm 6) 6 P1, ia cy (mm 7) 6 N1]) = ([mO cy mm ik tl fm tz vl iw rm1 rr1 om, ia cy (mm 1) 169 S, ia cy (mm 4) 7 (fnd C (cStop S (nI sn) x2 x3 x4)), ia cy (mm 6) 6 P1, ia cy (mm 7) 6 N1]) := congrArg (fun z9 => [mO cy mm ik tl fm tz vl iw rm1 rr1 om, ia cy (mm 1) 169 S, ia cy (mm 4) 7 z9, ia cy (mm 6) 6 P1, ia cy (mm 7) 6 N1]) (show C = (fnd C (cStop S (nI sn) x2 x3 x4)) from fnd_o hcd)
                replace hP5 := (congrArg (fun z9 => va_P D vwCl z9 _) hq9).mp hP5
                replace hD5 := (congrArg (fun z9 => va_D _ z9) hq9).mp hD5
                clear hq9
                refine re_i (P1, N1, rm1, rr1) hx hb hr hlocks hP5 hD5 hS5 dX7_stop_235 ?_
                exact (ans_o hcd (by rw [hux]; unfold vStop; rw [← hnp]; clear hx hb hml hown hr hlocks hw hsz hA hG hK hP5 hD5 hS5 hl5 ih_64; grind))
            · refine lv_aload_n hx hb dX7_stop_199 rfl (lv_at hl5 4 rfl) ?_
              refine lv_ldc (v := (-1000000004)) hx hb hown (hw _ kw_5_132) dX7_stop_200 ?_
              refine cV_i (wc := [mO cy mm ik tl fm tz vl iw rm1 rr1 om, ia cy (mm 4) 7 C]) (wr := [ia cy (mm 1) 169 S, ia cy (mm 6) 6 P1, ia cy (mm 7) 6 N1]) (rest := []) hx hb hml hown hw hG hK hP5 hD5 hS5 hA hl5 kc_X7_finds kw_4_139 [.int (-1000000004)] (c_X7_finds l D cy G H5.size mm ik tl fm tz vl iw rm1 rr1 om C 3 (-1000000004) (by decide) (by decide)) [0, 2] [1, 3, 4] rfl rfl rfl rfl rfl 0 rfl rfl rfl rfl rfl (Nat.le_of_ble_eq_true rfl) ⟨Nat.le_of_ble_eq_true rfl, Nat.le_of_ble_eq_true rfl⟩ dX7_stop_202 ⟨Nat.le_of_ble_eq_true rfl, Nat.le_of_ble_eq_true rfl⟩ (fun r_202 u9 H6 locs6 hu9 hP6 hD6 hS6 => ?_)
              clear hP5 hD5 hS5 locs5 H5
              have hr_202 := hu9
              replace hP6 : va_P D vwCl ([ia cy (mm 1) 169 S, ia cy (mm 6) 6 P1, ia cy (mm 7) 6 N1, mO cy mm ik tl fm tz vl iw rm1 rr1 om, ia cy (mm 4) 7 (upd C 3 (C 3 + 1))]) H6 := hP6
              replace hD6 : va_D (va_A _ sz) ([ia cy (mm 1) 169 S, ia cy (mm 6) 6 P1, ia cy (mm 7) 6 N1, mO cy mm ik tl fm tz vl iw rm1 rr1 om, ia cy (mm 4) 7 (upd C 3 (C 3 + 1))]) := hD6
              replace hP6 := hP6.sub (ws' := [mO cy mm ik tl fm tz vl iw rm1 rr1 om, ia cy (mm 1) 169 S, ia cy (mm 4) 7 (upd C 3 (C 3 + 1)), ia cy (mm 6) 6 P1, ia cy (mm 7) 6 N1]) [3, 0, 4, 1, 2] rfl
              replace hD6 := hD6.sub (ws' := [mO cy mm ik tl fm tz vl iw rm1 rr1 om, ia cy (mm 1) 169 S, ia cy (mm 4) 7 (upd C 3 (C 3 + 1)), ia cy (mm 6) 6 P1, ia cy (mm 7) 6 N1]) [3, 0, 4, 1, 2] (by decide) rfl
              subst hr_202
              refine lv_goto (tgt := 235) hx hb dX7_stop_205 (by decide) ?_
              have hcd : cStop S (nI sn) x2 x3 x4 = 3 := by unfold cStop; rw [hux, ← hnp]; clear hx hb hml hown hr hlocks hw hsz hA hG hK hP6 hD6 hS6 hl5 ih_64; grind
              have hq9 : ([mO cy mm ik tl fm tz vl iw rm1 rr1 om, ia cy (mm 1) 169 S, ia cy (mm 4) 7 (upd C 3 (C 3 + 1)), ia cy (mm 6) 6 P1, ia cy (mm 7) 6 N1]) = ([mO cy mm ik tl fm tz vl iw rm1 rr1 om, ia cy (mm 1) 169 S, ia cy (mm 4) 7 (fnd C (cStop S (nI sn) x2 x3 x4)), ia cy (mm 6) 6 P1, ia cy (mm 7) 6 N1]) := congrArg (fun z9 => [mO cy mm ik tl fm tz vl iw rm1 rr1 om, ia cy (mm 1) 169 S, ia cy (mm 4) 7 z9, ia cy (mm 6) 6 P1, ia cy (mm 7) 6 N1]) (show (upd C 3 (C 3 + 1)) = (fnd C (cStop S (nI sn) x2 x3 x4)) from fnd_f hcd (by decide))
              replace hP6 := (congrArg (fun z9 => va_P D vwCl z9 _) hq9).mp hP6
              replace hD6 := (congrArg (fun z9 => va_D _ z9) hq9).mp hD6
              clear hq9
              refine re_i (P1, N1, rm1, rr1) hx hb hr hlocks hP6 hD6 hS6 dX7_stop_235 ?_
              exact (ans_f hcd (by decide) rfl)
          · obtain ⟨dk, edk⟩ : ∃ z9, z9 = dep 32 sn k := ⟨_, rfl⟩
            have hsq : q1 = nI dk := (hq c_66).trans (congrArg nI edk.symm)
            have hq9 : nI dk = q1 := hsq.symm
            replace hl5 : lv_has ls5 11 [(8, .int (b2i (k < np))), (7, .int (nI dk)), (6, .int (spL S sn x2 x3 k)), (5, .int (spB S sn x2 x3 k)), (0, .ref (mm 0)), (1, .int (nI sn)), (2, .int x2), (3, .int x3), (4, .int x4)] := (congrArg (fun z9 => lv_has ls5 11 [(8, .int (b2i (k < np))), (7, .int z9), (6, .int (spL S sn x2 x3 k)), (5, .int (spB S sn x2 x3 k)), (0, .ref (mm 0)), (1, .int (nI sn)), (2, .int x2), (3, .int x3), (4, .int x4)]) hq9).mpr hl5
            clear hq9
            have hdl : dk ≤ sn := by rw [edk]; exact dep_le 32 sn k (by omega)
            have hdq : ∀ g, dk.testBit g = true → sn.testBit g = true := by rw [edk]; exact dep_sub (m := sn) (by omega) k
            have hws := shS_wf wf (v := 1) (Or.inr rfl) dk (gcN S) hg20
            have hsp := sp_r (S := S) (co := x2) (le := x3) (k := k) hm20 edk
            have hde : dk = sn ↔ k + 1 = np := by rw [edk, hnq]; exact dep_e 32 sn k (by omega) (by rw [← hnq]; exact c_66)
            have hp1 : pop dk ≤ 32 := pop_le 32 dk
            have hp2 : pop (bstN (spB S sn x2 x3 k)) ≤ 32 := pop_le 32 _
            have hod : opn S dk (gcN S) := fun g hg hb => hok.2.2 g hg (hdq g hb)
            have hsb := fun z9 => spB_b (S := S) (m := sn) (k := k) (co := x2) (le := x3) hm20 z9
            have hq9 : k + 1 < np → (nI dk - nI sn) &&& nI sn = nI (dep 32 sn (k + 1)) := fun z9 => by
              have h9 := sq_dep (m := sn) (by omega) (k + 1) (by rw [← hnq]; exact z9)
              have h8 := sq_dep (m := sn) (by omega) k (by rw [← hnq]; omega)
              rw [← edk] at h8
              rw [← h9, ← h8]; rfl
            clear edk
            refine lv_aload_n hx hb dX7_stop_69 rfl (lv_at hl5 4 rfl) ?_
            refine lv_iload hx hb dX7_stop_70 (lv_at hl5 1 rfl) ?_
            refine rV_i (wc := [mO cy mm ik tl fm tz vl iw rm1 rr1 om, ia cy (mm 1) 169 S]) (rest := []) hx hb hml hown hw hG hK hP5 hS5 hA hl5 kc_X7_costs kw_5_150 [.int (nI dk)] (c_X7_costs l D cy G H5.size mm ik tl fm tz vl iw rm1 rr1 om S dk wf (by omega)) [0, 1] rfl 0 rfl rfl rfl rfl rfl (Nat.le_of_ble_eq_true rfl) ⟨Nat.le_of_ble_eq_true rfl, Nat.le_of_ble_eq_true rfl⟩ dX7_stop_72 ⟨Nat.le_of_ble_eq_true rfl, Nat.le_of_ble_eq_true rfl⟩ (fun r_72 H6 locs6 hr_72 hP6 hS6 => ?_)
            have hD6 := hD5
            clear hP5 hD5 hS5 locs5 H5
            subst hr_72
            refine lv_iload_n hx hb dX7_stop_75 rfl (lv_at hl5 6 rfl) ?_
            refine lv_icmp_gt (tgt := 170) hx hb dX7_stop_76 (by decide) (fun c_76 => ?_) (fun c_76 => ?_)
            · have hq9 : spB S sn x2 x3 (k + 1) = spB S sn x2 x3 k := (hsp.1).trans (if_neg (fun z9 => absurd z9.1.1 (Int32.not_le.mpr c_76)))
              replace hl5 : lv_has ls5 11 [(8, .int (b2i (k < np))), (7, .int (nI dk)), (6, .int (spL S sn x2 x3 k)), (5, .int (spB S sn x2 x3 (k + 1))), (0, .ref (mm 0)), (1, .int (nI sn)), (2, .int x2), (3, .int x3), (4, .int x4)] := (congrArg (fun z9 => lv_has ls5 11 [(8, .int (b2i (k < np))), (7, .int (nI dk)), (6, .int (spL S sn x2 x3 k)), (5, .int z9), (0, .ref (mm 0)), (1, .int (nI sn)), (2, .int x2), (3, .int x3), (4, .int x4)]) hq9).mpr hl5
              clear hq9
              have hq9 : spL S sn x2 x3 (k + 1) = spL S sn x2 x3 k := (hsp.2).trans (if_neg (fun z9 => absurd z9.1.1 (Int32.not_le.mpr c_76)))
              replace hl5 : lv_has ls5 11 [(8, .int (b2i (k < np))), (7, .int (nI dk)), (6, .int (spL S sn x2 x3 (k + 1))), (5, .int (spB S sn x2 x3 (k + 1))), (0, .ref (mm 0)), (1, .int (nI sn)), (2, .int x2), (3, .int x3), (4, .int x4)] := (congrArg (fun z9 => lv_has ls5 11 [(8, .int (b2i (k < np))), (7, .int (nI dk)), (6, .int z9), (5, .int (spB S sn x2 x3 (k + 1))), (0, .ref (mm 0)), (1, .int (nI sn)), (2, .int x2), (3, .int x3), (4, .int x4)]) hq9).mpr hl5
              clear hq9
              refine lv_iload hx hb dX7_stop_170 (lv_at hl5 1 rfl) ?_
              refine lv_iload_n hx hb dX7_stop_172 rfl (lv_at hl5 5 rfl) ?_
              refine ln_eq (tgt := 180) dk sn rfl rfl (by omega) (by omega) hx hb dX7_stop_173 (by decide) (fun c_173 => ?_) (fun c_173 => ?_)
              · refine lv_iconst (v := 0) hx hb dX7_stop_180 (by decide) ?_
                refine lv_istore (lv' := [(8, .int 0), (7, .int (nI dk)), (6, .int (spL S sn x2 x3 (k + 1))), (5, .int (spB S sn x2 x3 (k + 1))), (0, .ref (mm 0)), (1, .int (nI sn)), (2, .int x2), (3, .int x3), (4, .int x4)]) hx hb dX7_stop_181 hl5 (by decide) rfl (fun ls6 hl6 => ?_)
                clear hl5 ls5
                have hq9 : b2i (k + 1 < np) = 0 := b2i_f (fun z9 => by have h9 := hde.mp c_173; omega)
                replace hl6 : lv_has ls6 11 [(8, .int (b2i (k + 1 < np))), (7, .int (nI dk)), (6, .int (spL S sn x2 x3 (k + 1))), (5, .int (spB S sn x2 x3 (k + 1))), (0, .ref (mm 0)), (1, .int (nI sn)), (2, .int x2), (3, .int x3), (4, .int x4)] := (congrArg (fun z9 => lv_has ls6 11 [(8, .int z9), (7, .int (nI dk)), (6, .int (spL S sn x2 x3 (k + 1))), (5, .int (spB S sn x2 x3 (k + 1))), (0, .ref (mm 0)), (1, .int (nI sn)), (2, .int x2), (3, .int x3), (4, .int x4)]) hq9).mpr hl6
                clear hq9
                refine lv_iload hx hb dX7_stop_183 (lv_at hl6 1 rfl) ?_
                refine lv_iload_n hx hb dX7_stop_185 rfl (lv_at hl6 5 rfl) ?_
                refine lv_isub hx hb dX7_stop_186 ?_
                refine lv_iload_n hx hb dX7_stop_187 rfl (lv_at hl6 5 rfl) ?_
                refine lv_iand hx hb dX7_stop_188 ?_
                refine lv_istore (lv' := [(7, .int (((nI dk) - (nI sn)) &&& (nI sn))), (8, .int (b2i (k + 1 < np))), (6, .int (spL S sn x2 x3 (k + 1))), (5, .int (spB S sn x2 x3 (k + 1))), (0, .ref (mm 0)), (1, .int (nI sn)), (2, .int x2), (3, .int x3), (4, .int x4)]) hx hb dX7_stop_189 hl6 (by decide) rfl (fun ls7 hl7 => ?_)
                clear hl6 ls6
                refine lv_goto (tgt := 64) hx hb dX7_stop_191 (by decide) ?_
                exact ih_64 (k + 1, ((nI dk) - (nI sn)) &&& (nI sn), P1, N1, rm1, rr1) (⟨(by dsimp only; omega), hq9⟩) (by (try dsimp only); omega) H6 locs6 ls7 hP6 hD6 hS6 (lv_sub hl7 [1, 0, 2, 3, 4, 5, 6, 7, 8] rfl)
              · refine lv_iconst (v := 1) hx hb dX7_stop_176 (by decide) ?_
                refine lv_goto (tgt := 181) hx hb dX7_stop_177 (by decide) ?_
                refine lv_istore (lv' := [(8, .int 1), (7, .int (nI dk)), (6, .int (spL S sn x2 x3 (k + 1))), (5, .int (spB S sn x2 x3 (k + 1))), (0, .ref (mm 0)), (1, .int (nI sn)), (2, .int x2), (3, .int x3), (4, .int x4)]) hx hb dX7_stop_181 hl5 (by decide) rfl (fun ls6 hl6 => ?_)
                clear hl5 ls5
                have hq9 : b2i (k + 1 < np) = 1 := b2i_t (by have h9 := mt hde.mpr c_173; omega)
                replace hl6 : lv_has ls6 11 [(8, .int (b2i (k + 1 < np))), (7, .int (nI dk)), (6, .int (spL S sn x2 x3 (k + 1))), (5, .int (spB S sn x2 x3 (k + 1))), (0, .ref (mm 0)), (1, .int (nI sn)), (2, .int x2), (3, .int x3), (4, .int x4)] := (congrArg (fun z9 => lv_has ls6 11 [(8, .int z9), (7, .int (nI dk)), (6, .int (spL S sn x2 x3 (k + 1))), (5, .int (spB S sn x2 x3 (k + 1))), (0, .ref (mm 0)), (1, .int (nI sn)), (2, .int x2), (3, .int x3), (4, .int x4)]) hq9).mpr hl6
                clear hq9
                refine lv_iload hx hb dX7_stop_183 (lv_at hl6 1 rfl) ?_
                refine lv_iload_n hx hb dX7_stop_185 rfl (lv_at hl6 5 rfl) ?_
                refine lv_isub hx hb dX7_stop_186 ?_
                refine lv_iload_n hx hb dX7_stop_187 rfl (lv_at hl6 5 rfl) ?_
                refine lv_iand hx hb dX7_stop_188 ?_
                refine lv_istore (lv' := [(7, .int (((nI dk) - (nI sn)) &&& (nI sn))), (8, .int (b2i (k + 1 < np))), (6, .int (spL S sn x2 x3 (k + 1))), (5, .int (spB S sn x2 x3 (k + 1))), (0, .ref (mm 0)), (1, .int (nI sn)), (2, .int x2), (3, .int x3), (4, .int x4)]) hx hb dX7_stop_189 hl6 (by decide) rfl (fun ls7 hl7 => ?_)
                clear hl6 ls6
                refine lv_goto (tgt := 64) hx hb dX7_stop_191 (by decide) ?_
                exact ih_64 (k + 1, ((nI dk) - (nI sn)) &&& (nI sn), P1, N1, rm1, rr1) (⟨(by dsimp only; omega), hq9⟩) (by (try dsimp only); omega) H6 locs6 ls7 hP6 hD6 hS6 (lv_sub hl7 [1, 0, 2, 3, 4, 5, 6, 7, 8] rfl)
            · refine lv_aload_n hx hb dX7_stop_79 rfl (lv_at hl5 4 rfl) ?_
              refine lv_iload hx hb dX7_stop_80 (lv_at hl5 1 rfl) ?_
              refine lv_iconst (v := 1) hx hb dX7_stop_82 (by decide) ?_
              refine cV_v (wc := [mO cy mm ik tl fm tz vl iw rm1 rr1 om, ia cy (mm 1) 169 S]) (wr := [ia cy (mm 4) 7 C, ia cy (mm 6) 6 P1, ia cy (mm 7) 6 N1]) (rest := []) hx hb hml hown hw hG hK hP6 hD6 hS6 hA hl5 kc_X7_shuts kw_5_154 [.int (nI dk), .int 1] (c_X7_shuts l D cy G H6.size mm ik tl fm tz vl iw rm1 rr1 om S dk 1 wf (by omega)) [0, 1] [2, 3, 4] rfl rfl rfl rfl rfl 0 rfl rfl rfl rfl rfl (Nat.le_of_ble_eq_true rfl) ⟨Nat.le_of_ble_eq_true rfl, Nat.le_of_ble_eq_true rfl⟩ dX7_stop_83 ⟨Nat.le_of_ble_eq_true rfl, Nat.le_of_ble_eq_true rfl⟩ (fun u9 H7 locs7 hu9 hP7 hD7 hS7 => ?_)
              clear hP6 hD6 hS6 locs6 H6
              replace hP7 : va_P D vwCl ([ia cy (mm 4) 7 C, ia cy (mm 6) 6 P1, ia cy (mm 7) 6 N1, mO cy mm ik tl fm tz vl iw rm1 rr1 om, ia cy (mm 1) 169 (shS S 1 dk (gcN S))]) H7 := hP7
              replace hD7 : va_D (va_A _ sz) ([ia cy (mm 4) 7 C, ia cy (mm 6) 6 P1, ia cy (mm 7) 6 N1, mO cy mm ik tl fm tz vl iw rm1 rr1 om, ia cy (mm 1) 169 (shS S 1 dk (gcN S))]) := hD7
              replace hP7 := hP7.sub (ws' := [mO cy mm ik tl fm tz vl iw rm1 rr1 om, ia cy (mm 1) 169 (shS S 1 dk (gcN S)), ia cy (mm 4) 7 C, ia cy (mm 6) 6 P1, ia cy (mm 7) 6 N1]) [3, 4, 0, 1, 2] rfl
              replace hD7 := hD7.sub (ws' := [mO cy mm ik tl fm tz vl iw rm1 rr1 om, ia cy (mm 1) 169 (shS S 1 dk (gcN S)), ia cy (mm 4) 7 C, ia cy (mm 6) 6 P1, ia cy (mm 7) 6 N1]) [3, 4, 0, 1, 2] (by decide) rfl
              refine lv_aload_n hx hb dX7_stop_86 rfl (lv_at hl5 4 rfl) ?_
              refine cV_v (wc := [mO cy mm ik tl fm tz vl iw rm1 rr1 om, ia cy (mm 1) 169 (shS S 1 dk (gcN S)), ia cy (mm 6) 6 P1, ia cy (mm 7) 6 N1]) (wr := [ia cy (mm 4) 7 C]) (rest := []) hx hb hml hown hw hG hK hP7 hD7 hS7 hA hl5 kc_X7_rests kw_5_57 [] (c_X7_rests l D cy G H7.size mm ik tl fm tz vl iw rm1 rr1 om (shS S 1 dk (gcN S)) P1 N1 hws.1) [0, 1, 3, 4] [2] rfl rfl rfl rfl rfl 0 rfl rfl rfl rfl rfl (Nat.le_of_ble_eq_true rfl) ⟨Nat.le_of_ble_eq_true rfl, Nat.le_of_ble_eq_true rfl⟩ dX7_stop_87 ⟨Nat.le_of_ble_eq_true rfl, Nat.le_of_ble_eq_true rfl⟩ (fun u9 H8 locs8 hu9 hP8 hD8 hS8 => ?_)
              clear hP7 hD7 hS7 locs7 H7
              obtain ⟨N1_87, rfl⟩ : ∃ z9, z9 = u9 := ⟨_, rfl⟩
              replace hP8 : va_P D vwCl ([ia cy (mm 4) 7 C, mO cy mm ik tl fm tz vl iw (nI (RC (shS S 1 dk (gcN S)))) (b2i (RC (shS S 1 dk (gcN S)) = 60)) om, ia cy (mm 1) 169 (shS S 1 dk (gcN S)), ia cy (mm 6) 6 (PR (shS S 1 dk (gcN S))), ia cy (mm 7) 6 N1_87]) H8 := hP8
              replace hD8 : va_D (va_A _ sz) ([ia cy (mm 4) 7 C, mO cy mm ik tl fm tz vl iw (nI (RC (shS S 1 dk (gcN S)))) (b2i (RC (shS S 1 dk (gcN S)) = 60)) om, ia cy (mm 1) 169 (shS S 1 dk (gcN S)), ia cy (mm 6) 6 (PR (shS S 1 dk (gcN S))), ia cy (mm 7) 6 N1_87]) := hD8
              replace hP8 := hP8.sub (ws' := [mO cy mm ik tl fm tz vl iw (nI (RC (shS S 1 dk (gcN S)))) (b2i (RC (shS S 1 dk (gcN S)) = 60)) om, ia cy (mm 1) 169 (shS S 1 dk (gcN S)), ia cy (mm 4) 7 C, ia cy (mm 6) 6 (PR (shS S 1 dk (gcN S))), ia cy (mm 7) 6 N1_87]) [1, 2, 0, 3, 4] rfl
              replace hD8 := hD8.sub (ws' := [mO cy mm ik tl fm tz vl iw (nI (RC (shS S 1 dk (gcN S)))) (b2i (RC (shS S 1 dk (gcN S)) = 60)) om, ia cy (mm 1) 169 (shS S 1 dk (gcN S)), ia cy (mm 4) 7 C, ia cy (mm 6) 6 (PR (shS S 1 dk (gcN S))), ia cy (mm 7) 6 N1_87]) [1, 2, 0, 3, 4] (by decide) rfl
              refine lv_aload_n hx hb dX7_stop_90 rfl (lv_at hl5 4 rfl) ?_
              refine rV_i (wc := [mO cy mm ik tl fm tz vl iw (nI (RC (shS S 1 dk (gcN S)))) (b2i (RC (shS S 1 dk (gcN S)) = 60)) om, ia cy (mm 1) 169 (shS S 1 dk (gcN S)), ia cy (mm 6) 6 (PR (shS S 1 dk (gcN S)))]) (rest := []) hx hb hml hown hw hG hK hP8 hS8 hA hl5 kc_X7_fresh kw_5_101 [] (c_X7_fresh l D cy G H8.size mm ik tl fm tz vl iw (nI (RC (shS S 1 dk (gcN S)))) (b2i (RC (shS S 1 dk (gcN S)) = 60)) om (shS S 1 dk (gcN S)) (PR (shS S 1 dk (gcN S))) hws.1) [0, 1, 3] rfl 0 rfl rfl rfl rfl rfl (Nat.le_of_ble_eq_true rfl) ⟨Nat.le_of_ble_eq_true rfl, Nat.le_of_ble_eq_true rfl⟩ dX7_stop_91 ⟨Nat.le_of_ble_eq_true rfl, Nat.le_of_ble_eq_true rfl⟩ (fun r_91 H9 locs9 hr_91 hP9 hS9 => ?_)
              have hD9 := hD8
              clear hP8 hD8 hS8 locs8 H8
              subst hr_91
              refine tp (show (frs (shS S 1 dk (gcN S)) (PR (shS S 1 dk (gcN S))) (gcN (shS S 1 dk (gcN S)))) = fresh (shS S 1 dk (gcN S)) from rfl) ?_
              refine lv_iload_n hx hb dX7_stop_94 rfl (lv_at hl5 7 rfl) ?_
              refine lv_icmp_lt (tgt := 109) hx hb dX7_stop_95 (by decide) (fun c_95 => ?_) (fun c_95 => ?_)
              · refine lv_iconst (v := 0) hx hb dX7_stop_109 (by decide) ?_
                refine lv_istore (lv' := [(9, .int 0), (8, .int (b2i (k < np))), (7, .int (nI dk)), (6, .int (spL S sn x2 x3 k)), (5, .int (spB S sn x2 x3 k)), (0, .ref (mm 0)), (1, .int (nI sn)), (2, .int x2), (3, .int x3), (4, .int x4)]) hx hb dX7_stop_110 hl5 (by decide) rfl (fun ls6 hl6 => ?_)
                clear hl5 ls5
                refine lv_aload_n hx hb dX7_stop_112 rfl (lv_at hl6 5 rfl) ?_
                refine rV_i (wc := [mO cy mm ik tl fm tz vl iw (nI (RC (shS S 1 dk (gcN S)))) (b2i (RC (shS S 1 dk (gcN S)) = 60)) om, ia cy (mm 1) 169 (shS S 1 dk (gcN S)), ia cy (mm 6) 6 (PR (shS S 1 dk (gcN S)))]) (rest := []) hx hb hml hown hw hG hK hP9 hS9 hA hl6 kc_X7_lost kw_5_105 [] (c_X7_lost l D cy G H9.size mm ik tl fm tz vl iw (nI (RC (shS S 1 dk (gcN S)))) (b2i (RC (shS S 1 dk (gcN S)) = 60)) om (shS S 1 dk (gcN S)) (PR (shS S 1 dk (gcN S))) hws.1) [0, 1, 3] rfl 0 rfl rfl rfl rfl rfl (Nat.le_of_ble_eq_true rfl) ⟨Nat.le_of_ble_eq_true rfl, Nat.le_of_ble_eq_true rfl⟩ dX7_stop_113 ⟨Nat.le_of_ble_eq_true rfl, Nat.le_of_ble_eq_true rfl⟩ (fun r_113 H10 locs10 hr_113 hP10 hS10 => ?_)
                have hD10 := hD9
                clear hP9 hD9 hS9 locs9 H9
                subst hr_113
                refine tp (show (frs (shS S 1 dk (gcN S)) (PR (shS S 1 dk (gcN S))) (gcN (shS S 1 dk (gcN S))) * (shS S 1 dk (gcN S)) 2) = lost (shS S 1 dk (gcN S)) from rfl) ?_
                refine lv_istore (lv' := [(10, .int (lost (shS S 1 dk (gcN S)))), (9, .int 0), (8, .int (b2i (k < np))), (7, .int (nI dk)), (6, .int (spL S sn x2 x3 k)), (5, .int (spB S sn x2 x3 k)), (0, .ref (mm 0)), (1, .int (nI sn)), (2, .int x2), (3, .int x3), (4, .int x4)]) hx hb dX7_stop_116 hl6 (by decide) rfl (fun ls7 hl7 => ?_)
                clear hl6 ls6
                refine lv_aload_n hx hb dX7_stop_118 rfl (lv_at hl7 6 rfl) ?_
                refine lv_iload hx hb dX7_stop_119 (lv_at hl7 3 rfl) ?_
                refine lv_iconst (v := 0) hx hb dX7_stop_121 (by decide) ?_
                refine cV_v (wc := [mO cy mm ik tl fm tz vl iw (nI (RC (shS S 1 dk (gcN S)))) (b2i (RC (shS S 1 dk (gcN S)) = 60)) om, ia cy (mm 1) 169 (shS S 1 dk (gcN S))]) (wr := [ia cy (mm 4) 7 C, ia cy (mm 6) 6 (PR (shS S 1 dk (gcN S))), ia cy (mm 7) 6 N1_87]) (rest := []) hx hb hml hown hw hG hK hP10 hD10 hS10 hA hl7 kc_X7_shuts kw_5_154 [.int (nI dk), .int 0] (c_X7_shuts l D cy G H10.size mm ik tl fm tz vl iw (nI (RC (shS S 1 dk (gcN S)))) (b2i (RC (shS S 1 dk (gcN S)) = 60)) om (shS S 1 dk (gcN S)) dk 0 hws.1 (by omega)) [0, 1] [2, 3, 4] rfl rfl rfl rfl rfl 0 rfl rfl rfl rfl rfl (Nat.le_of_ble_eq_true rfl) ⟨Nat.le_of_ble_eq_true rfl, Nat.le_of_ble_eq_true rfl⟩ dX7_stop_122 ⟨Nat.le_of_ble_eq_true rfl, Nat.le_of_ble_eq_true rfl⟩ (fun u9 H11 locs11 hu9 hP11 hD11 hS11 => ?_)
                clear hP10 hD10 hS10 locs10 H10
                replace hP11 : va_P D vwCl ([ia cy (mm 4) 7 C, ia cy (mm 6) 6 (PR (shS S 1 dk (gcN S))), ia cy (mm 7) 6 N1_87, mO cy mm ik tl fm tz vl iw (nI (RC (shS S 1 dk (gcN S)))) (b2i (RC (shS S 1 dk (gcN S)) = 60)) om, ia cy (mm 1) 169 (shS (shS S 1 dk (gcN S)) 0 dk (gcN (shS S 1 dk (gcN S))))]) H11 := hP11
                replace hD11 : va_D (va_A _ sz) ([ia cy (mm 4) 7 C, ia cy (mm 6) 6 (PR (shS S 1 dk (gcN S))), ia cy (mm 7) 6 N1_87, mO cy mm ik tl fm tz vl iw (nI (RC (shS S 1 dk (gcN S)))) (b2i (RC (shS S 1 dk (gcN S)) = 60)) om, ia cy (mm 1) 169 (shS (shS S 1 dk (gcN S)) 0 dk (gcN (shS S 1 dk (gcN S))))]) := hD11
                replace hP11 := hP11.sub (ws' := [mO cy mm ik tl fm tz vl iw (nI (RC (shS S 1 dk (gcN S)))) (b2i (RC (shS S 1 dk (gcN S)) = 60)) om, ia cy (mm 1) 169 (shS (shS S 1 dk (gcN S)) 0 dk (gcN (shS S 1 dk (gcN S)))), ia cy (mm 4) 7 C, ia cy (mm 6) 6 (PR (shS S 1 dk (gcN S))), ia cy (mm 7) 6 N1_87]) [3, 4, 0, 1, 2] rfl
                replace hD11 := hD11.sub (ws' := [mO cy mm ik tl fm tz vl iw (nI (RC (shS S 1 dk (gcN S)))) (b2i (RC (shS S 1 dk (gcN S)) = 60)) om, ia cy (mm 1) 169 (shS (shS S 1 dk (gcN S)) 0 dk (gcN (shS S 1 dk (gcN S)))), ia cy (mm 4) 7 C, ia cy (mm 6) 6 (PR (shS S 1 dk (gcN S))), ia cy (mm 7) 6 N1_87]) [3, 4, 0, 1, 2] (by decide) rfl
                have hq9 : ([mO cy mm ik tl fm tz vl iw (nI (RC (shS S 1 dk (gcN S)))) (b2i (RC (shS S 1 dk (gcN S)) = 60)) om, ia cy (mm 1) 169 (shS (shS S 1 dk (gcN S)) 0 dk (gcN (shS S 1 dk (gcN S)))), ia cy (mm 4) 7 C, ia cy (mm 6) 6 (PR (shS S 1 dk (gcN S))), ia cy (mm 7) 6 N1_87]) = ([mO cy mm ik tl fm tz vl iw (nI (RC (shS S 1 dk (gcN S)))) (b2i (RC (shS S 1 dk (gcN S)) = 60)) om, ia cy (mm 1) 169 S, ia cy (mm 4) 7 C, ia cy (mm 6) 6 (PR (shS S 1 dk (gcN S))), ia cy (mm 7) 6 N1_87]) := congrArg (fun z9 => [mO cy mm ik tl fm tz vl iw (nI (RC (shS S 1 dk (gcN S)))) (b2i (RC (shS S 1 dk (gcN S)) = 60)) om, ia cy (mm 1) 169 z9, ia cy (mm 4) 7 C, ia cy (mm 6) 6 (PR (shS S 1 dk (gcN S))), ia cy (mm 7) 6 N1_87]) (show (shS (shS S 1 dk (gcN S)) 0 dk (gcN (shS S 1 dk (gcN S)))) = S from (by rw [hws.2.2]; exact shS_back hod))
                replace hP11 := (congrArg (fun z9 => va_P D vwCl z9 _) hq9).mp hP11
                replace hD11 := (congrArg (fun z9 => va_D _ z9) hq9).mp hD11
                clear hq9
                refine lv_iload hx hb dX7_stop_125 (lv_at hl7 1 rfl) ?_
                refine lv_if_eq (tgt := 170) hx hb dX7_stop_127 (by decide) (fun _ => ?_) (fun c => absurd (by decide) c)
                have hq9 : spB S sn x2 x3 (k + 1) = spB S sn x2 x3 k := (hsp.1).trans (if_neg (fun z9 => absurd z9.1.2.1 (Int32.not_le.mpr c_95)))
                replace hl7 : lv_has ls7 11 [(10, .int (lost (shS S 1 dk (gcN S)))), (9, .int 0), (8, .int (b2i (k < np))), (7, .int (nI dk)), (6, .int (spL S sn x2 x3 k)), (5, .int (spB S sn x2 x3 (k + 1))), (0, .ref (mm 0)), (1, .int (nI sn)), (2, .int x2), (3, .int x3), (4, .int x4)] := (congrArg (fun z9 => lv_has ls7 11 [(10, .int (lost (shS S 1 dk (gcN S)))), (9, .int 0), (8, .int (b2i (k < np))), (7, .int (nI dk)), (6, .int (spL S sn x2 x3 k)), (5, .int z9), (0, .ref (mm 0)), (1, .int (nI sn)), (2, .int x2), (3, .int x3), (4, .int x4)]) hq9).mpr hl7
                clear hq9
                have hq9 : spL S sn x2 x3 (k + 1) = spL S sn x2 x3 k := (hsp.2).trans (if_neg (fun z9 => absurd z9.1.2.1 (Int32.not_le.mpr c_95)))
                replace hl7 : lv_has ls7 11 [(10, .int (lost (shS S 1 dk (gcN S)))), (9, .int 0), (8, .int (b2i (k < np))), (7, .int (nI dk)), (6, .int (spL S sn x2 x3 (k + 1))), (5, .int (spB S sn x2 x3 (k + 1))), (0, .ref (mm 0)), (1, .int (nI sn)), (2, .int x2), (3, .int x3), (4, .int x4)] := (congrArg (fun z9 => lv_has ls7 11 [(10, .int (lost (shS S 1 dk (gcN S)))), (9, .int 0), (8, .int (b2i (k < np))), (7, .int (nI dk)), (6, .int z9), (5, .int (spB S sn x2 x3 (k + 1))), (0, .ref (mm 0)), (1, .int (nI sn)), (2, .int x2), (3, .int x3), (4, .int x4)]) hq9).mpr hl7
                clear hq9
                refine lv_iload hx hb dX7_stop_170 (lv_at hl7 3 rfl) ?_
                refine lv_iload_n hx hb dX7_stop_172 rfl (lv_at hl7 7 rfl) ?_
                refine ln_eq (tgt := 180) dk sn rfl rfl (by omega) (by omega) hx hb dX7_stop_173 (by decide) (fun c_173 => ?_) (fun c_173 => ?_)
                · refine lv_iconst (v := 0) hx hb dX7_stop_180 (by decide) ?_
                  refine lv_istore (lv' := [(8, .int 0), (10, .int (lost (shS S 1 dk (gcN S)))), (9, .int 0), (7, .int (nI dk)), (6, .int (spL S sn x2 x3 (k + 1))), (5, .int (spB S sn x2 x3 (k + 1))), (0, .ref (mm 0)), (1, .int (nI sn)), (2, .int x2), (3, .int x3), (4, .int x4)]) hx hb dX7_stop_181 hl7 (by decide) rfl (fun ls8 hl8 => ?_)
                  clear hl7 ls7
                  have hq9 : b2i (k + 1 < np) = 0 := b2i_f (fun z9 => by have h9 := hde.mp c_173; omega)
                  replace hl8 : lv_has ls8 11 [(8, .int (b2i (k + 1 < np))), (10, .int (lost (shS S 1 dk (gcN S)))), (9, .int 0), (7, .int (nI dk)), (6, .int (spL S sn x2 x3 (k + 1))), (5, .int (spB S sn x2 x3 (k + 1))), (0, .ref (mm 0)), (1, .int (nI sn)), (2, .int x2), (3, .int x3), (4, .int x4)] := (congrArg (fun z9 => lv_has ls8 11 [(8, .int z9), (10, .int (lost (shS S 1 dk (gcN S)))), (9, .int 0), (7, .int (nI dk)), (6, .int (spL S sn x2 x3 (k + 1))), (5, .int (spB S sn x2 x3 (k + 1))), (0, .ref (mm 0)), (1, .int (nI sn)), (2, .int x2), (3, .int x3), (4, .int x4)]) hq9).mpr hl8
                  clear hq9
                  refine lv_iload hx hb dX7_stop_183 (lv_at hl8 3 rfl) ?_
                  refine lv_iload_n hx hb dX7_stop_185 rfl (lv_at hl8 7 rfl) ?_
                  refine lv_isub hx hb dX7_stop_186 ?_
                  refine lv_iload_n hx hb dX7_stop_187 rfl (lv_at hl8 7 rfl) ?_
                  refine lv_iand hx hb dX7_stop_188 ?_
                  refine lv_istore (lv' := [(7, .int (((nI dk) - (nI sn)) &&& (nI sn))), (8, .int (b2i (k + 1 < np))), (10, .int (lost (shS S 1 dk (gcN S)))), (9, .int 0), (6, .int (spL S sn x2 x3 (k + 1))), (5, .int (spB S sn x2 x3 (k + 1))), (0, .ref (mm 0)), (1, .int (nI sn)), (2, .int x2), (3, .int x3), (4, .int x4)]) hx hb dX7_stop_189 hl8 (by decide) rfl (fun ls9 hl9 => ?_)
                  clear hl8 ls8
                  refine lv_goto (tgt := 64) hx hb dX7_stop_191 (by decide) ?_
                  exact ih_64 (k + 1, ((nI dk) - (nI sn)) &&& (nI sn), PR (shS S 1 dk (gcN S)), N1_87, nI (RC (shS S 1 dk (gcN S))), b2i (RC (shS S 1 dk (gcN S)) = 60)) (⟨(by dsimp only; omega), hq9⟩) (by (try dsimp only); omega) H11 locs11 ls9 hP11 hD11 hS11 (lv_sub hl9 [1, 0, 4, 5, 6, 7, 8, 9, 10] rfl)
                · refine lv_iconst (v := 1) hx hb dX7_stop_176 (by decide) ?_
                  refine lv_goto (tgt := 181) hx hb dX7_stop_177 (by decide) ?_
                  refine lv_istore (lv' := [(8, .int 1), (10, .int (lost (shS S 1 dk (gcN S)))), (9, .int 0), (7, .int (nI dk)), (6, .int (spL S sn x2 x3 (k + 1))), (5, .int (spB S sn x2 x3 (k + 1))), (0, .ref (mm 0)), (1, .int (nI sn)), (2, .int x2), (3, .int x3), (4, .int x4)]) hx hb dX7_stop_181 hl7 (by decide) rfl (fun ls8 hl8 => ?_)
                  clear hl7 ls7
                  have hq9 : b2i (k + 1 < np) = 1 := b2i_t (by have h9 := mt hde.mpr c_173; omega)
                  replace hl8 : lv_has ls8 11 [(8, .int (b2i (k + 1 < np))), (10, .int (lost (shS S 1 dk (gcN S)))), (9, .int 0), (7, .int (nI dk)), (6, .int (spL S sn x2 x3 (k + 1))), (5, .int (spB S sn x2 x3 (k + 1))), (0, .ref (mm 0)), (1, .int (nI sn)), (2, .int x2), (3, .int x3), (4, .int x4)] := (congrArg (fun z9 => lv_has ls8 11 [(8, .int z9), (10, .int (lost (shS S 1 dk (gcN S)))), (9, .int 0), (7, .int (nI dk)), (6, .int (spL S sn x2 x3 (k + 1))), (5, .int (spB S sn x2 x3 (k + 1))), (0, .ref (mm 0)), (1, .int (nI sn)), (2, .int x2), (3, .int x3), (4, .int x4)]) hq9).mpr hl8
                  clear hq9
                  refine lv_iload hx hb dX7_stop_183 (lv_at hl8 3 rfl) ?_
                  refine lv_iload_n hx hb dX7_stop_185 rfl (lv_at hl8 7 rfl) ?_
                  refine lv_isub hx hb dX7_stop_186 ?_
                  refine lv_iload_n hx hb dX7_stop_187 rfl (lv_at hl8 7 rfl) ?_
                  refine lv_iand hx hb dX7_stop_188 ?_
                  refine lv_istore (lv' := [(7, .int (((nI dk) - (nI sn)) &&& (nI sn))), (8, .int (b2i (k + 1 < np))), (10, .int (lost (shS S 1 dk (gcN S)))), (9, .int 0), (6, .int (spL S sn x2 x3 (k + 1))), (5, .int (spB S sn x2 x3 (k + 1))), (0, .ref (mm 0)), (1, .int (nI sn)), (2, .int x2), (3, .int x3), (4, .int x4)]) hx hb dX7_stop_189 hl8 (by decide) rfl (fun ls9 hl9 => ?_)
                  clear hl8 ls8
                  refine lv_goto (tgt := 64) hx hb dX7_stop_191 (by decide) ?_
                  exact ih_64 (k + 1, ((nI dk) - (nI sn)) &&& (nI sn), PR (shS S 1 dk (gcN S)), N1_87, nI (RC (shS S 1 dk (gcN S))), b2i (RC (shS S 1 dk (gcN S)) = 60)) (⟨(by dsimp only; omega), hq9⟩) (by (try dsimp only); omega) H11 locs11 ls9 hP11 hD11 hS11 (lv_sub hl9 [1, 0, 4, 5, 6, 7, 8, 9, 10] rfl)
              · refine lv_aload_n hx hb dX7_stop_98 rfl (lv_at hl5 4 rfl) ?_
                refine rV_i (wc := [mO cy mm ik tl fm tz vl iw (nI (RC (shS S 1 dk (gcN S)))) (b2i (RC (shS S 1 dk (gcN S)) = 60)) om, ia cy (mm 1) 169 (shS S 1 dk (gcN S)), ia cy (mm 6) 6 (PR (shS S 1 dk (gcN S)))]) (rest := []) hx hb hml hown hw hG hK hP9 hS9 hA hl5 kc_X7_smokes kw_5_109 [] (c_X7_smokes l D cy G H9.size mm ik tl fm tz vl iw (nI (RC (shS S 1 dk (gcN S)))) (b2i (RC (shS S 1 dk (gcN S)) = 60)) om (shS S 1 dk (gcN S)) (PR (shS S 1 dk (gcN S))) hws.1) [0, 1, 3] rfl 0 rfl rfl rfl rfl rfl (Nat.le_of_ble_eq_true rfl) ⟨Nat.le_of_ble_eq_true rfl, Nat.le_of_ble_eq_true rfl⟩ dX7_stop_99 ⟨Nat.le_of_ble_eq_true rfl, Nat.le_of_ble_eq_true rfl⟩ (fun r_99 H10 locs10 hr_99 hP10 hS10 => ?_)
                have hD10 := hD9
                clear hP9 hD9 hS9 locs9 H9
                subst hr_99
                refine tp (show (b2i (smk (shS S 1 dk (gcN S)) (PR (shS S 1 dk (gcN S))) (gcN (shS S 1 dk (gcN S))) = true)) = b2i (smokes (shS S 1 dk (gcN S)) = true) from rfl) ?_
                refine lb_ne (tgt := 109) hx hb dX7_stop_102 (by decide) (fun c_102 => ?_) (fun c_102 => ?_)
                · refine lv_iconst (v := 0) hx hb dX7_stop_109 (by decide) ?_
                  refine lv_istore (lv' := [(9, .int 0), (8, .int (b2i (k < np))), (7, .int (nI dk)), (6, .int (spL S sn x2 x3 k)), (5, .int (spB S sn x2 x3 k)), (0, .ref (mm 0)), (1, .int (nI sn)), (2, .int x2), (3, .int x3), (4, .int x4)]) hx hb dX7_stop_110 hl5 (by decide) rfl (fun ls6 hl6 => ?_)
                  clear hl5 ls5
                  refine lv_aload_n hx hb dX7_stop_112 rfl (lv_at hl6 5 rfl) ?_
                  refine rV_i (wc := [mO cy mm ik tl fm tz vl iw (nI (RC (shS S 1 dk (gcN S)))) (b2i (RC (shS S 1 dk (gcN S)) = 60)) om, ia cy (mm 1) 169 (shS S 1 dk (gcN S)), ia cy (mm 6) 6 (PR (shS S 1 dk (gcN S)))]) (rest := []) hx hb hml hown hw hG hK hP10 hS10 hA hl6 kc_X7_lost kw_5_105 [] (c_X7_lost l D cy G H10.size mm ik tl fm tz vl iw (nI (RC (shS S 1 dk (gcN S)))) (b2i (RC (shS S 1 dk (gcN S)) = 60)) om (shS S 1 dk (gcN S)) (PR (shS S 1 dk (gcN S))) hws.1) [0, 1, 3] rfl 0 rfl rfl rfl rfl rfl (Nat.le_of_ble_eq_true rfl) ⟨Nat.le_of_ble_eq_true rfl, Nat.le_of_ble_eq_true rfl⟩ dX7_stop_113 ⟨Nat.le_of_ble_eq_true rfl, Nat.le_of_ble_eq_true rfl⟩ (fun r_113 H11 locs11 hr_113 hP11 hS11 => ?_)
                  have hD11 := hD10
                  clear hP10 hD10 hS10 locs10 H10
                  subst hr_113
                  refine tp (show (frs (shS S 1 dk (gcN S)) (PR (shS S 1 dk (gcN S))) (gcN (shS S 1 dk (gcN S))) * (shS S 1 dk (gcN S)) 2) = lost (shS S 1 dk (gcN S)) from rfl) ?_
                  refine lv_istore (lv' := [(10, .int (lost (shS S 1 dk (gcN S)))), (9, .int 0), (8, .int (b2i (k < np))), (7, .int (nI dk)), (6, .int (spL S sn x2 x3 k)), (5, .int (spB S sn x2 x3 k)), (0, .ref (mm 0)), (1, .int (nI sn)), (2, .int x2), (3, .int x3), (4, .int x4)]) hx hb dX7_stop_116 hl6 (by decide) rfl (fun ls7 hl7 => ?_)
                  clear hl6 ls6
                  refine lv_aload_n hx hb dX7_stop_118 rfl (lv_at hl7 6 rfl) ?_
                  refine lv_iload hx hb dX7_stop_119 (lv_at hl7 3 rfl) ?_
                  refine lv_iconst (v := 0) hx hb dX7_stop_121 (by decide) ?_
                  refine cV_v (wc := [mO cy mm ik tl fm tz vl iw (nI (RC (shS S 1 dk (gcN S)))) (b2i (RC (shS S 1 dk (gcN S)) = 60)) om, ia cy (mm 1) 169 (shS S 1 dk (gcN S))]) (wr := [ia cy (mm 4) 7 C, ia cy (mm 6) 6 (PR (shS S 1 dk (gcN S))), ia cy (mm 7) 6 N1_87]) (rest := []) hx hb hml hown hw hG hK hP11 hD11 hS11 hA hl7 kc_X7_shuts kw_5_154 [.int (nI dk), .int 0] (c_X7_shuts l D cy G H11.size mm ik tl fm tz vl iw (nI (RC (shS S 1 dk (gcN S)))) (b2i (RC (shS S 1 dk (gcN S)) = 60)) om (shS S 1 dk (gcN S)) dk 0 hws.1 (by omega)) [0, 1] [2, 3, 4] rfl rfl rfl rfl rfl 0 rfl rfl rfl rfl rfl (Nat.le_of_ble_eq_true rfl) ⟨Nat.le_of_ble_eq_true rfl, Nat.le_of_ble_eq_true rfl⟩ dX7_stop_122 ⟨Nat.le_of_ble_eq_true rfl, Nat.le_of_ble_eq_true rfl⟩ (fun u9 H12 locs12 hu9 hP12 hD12 hS12 => ?_)
                  clear hP11 hD11 hS11 locs11 H11
                  replace hP12 : va_P D vwCl ([ia cy (mm 4) 7 C, ia cy (mm 6) 6 (PR (shS S 1 dk (gcN S))), ia cy (mm 7) 6 N1_87, mO cy mm ik tl fm tz vl iw (nI (RC (shS S 1 dk (gcN S)))) (b2i (RC (shS S 1 dk (gcN S)) = 60)) om, ia cy (mm 1) 169 (shS (shS S 1 dk (gcN S)) 0 dk (gcN (shS S 1 dk (gcN S))))]) H12 := hP12
                  replace hD12 : va_D (va_A _ sz) ([ia cy (mm 4) 7 C, ia cy (mm 6) 6 (PR (shS S 1 dk (gcN S))), ia cy (mm 7) 6 N1_87, mO cy mm ik tl fm tz vl iw (nI (RC (shS S 1 dk (gcN S)))) (b2i (RC (shS S 1 dk (gcN S)) = 60)) om, ia cy (mm 1) 169 (shS (shS S 1 dk (gcN S)) 0 dk (gcN (shS S 1 dk (gcN S))))]) := hD12
                  replace hP12 := hP12.sub (ws' := [mO cy mm ik tl fm tz vl iw (nI (RC (shS S 1 dk (gcN S)))) (b2i (RC (shS S 1 dk (gcN S)) = 60)) om, ia cy (mm 1) 169 (shS (shS S 1 dk (gcN S)) 0 dk (gcN (shS S 1 dk (gcN S)))), ia cy (mm 4) 7 C, ia cy (mm 6) 6 (PR (shS S 1 dk (gcN S))), ia cy (mm 7) 6 N1_87]) [3, 4, 0, 1, 2] rfl
                  replace hD12 := hD12.sub (ws' := [mO cy mm ik tl fm tz vl iw (nI (RC (shS S 1 dk (gcN S)))) (b2i (RC (shS S 1 dk (gcN S)) = 60)) om, ia cy (mm 1) 169 (shS (shS S 1 dk (gcN S)) 0 dk (gcN (shS S 1 dk (gcN S)))), ia cy (mm 4) 7 C, ia cy (mm 6) 6 (PR (shS S 1 dk (gcN S))), ia cy (mm 7) 6 N1_87]) [3, 4, 0, 1, 2] (by decide) rfl
                  have hq9 : ([mO cy mm ik tl fm tz vl iw (nI (RC (shS S 1 dk (gcN S)))) (b2i (RC (shS S 1 dk (gcN S)) = 60)) om, ia cy (mm 1) 169 (shS (shS S 1 dk (gcN S)) 0 dk (gcN (shS S 1 dk (gcN S)))), ia cy (mm 4) 7 C, ia cy (mm 6) 6 (PR (shS S 1 dk (gcN S))), ia cy (mm 7) 6 N1_87]) = ([mO cy mm ik tl fm tz vl iw (nI (RC (shS S 1 dk (gcN S)))) (b2i (RC (shS S 1 dk (gcN S)) = 60)) om, ia cy (mm 1) 169 S, ia cy (mm 4) 7 C, ia cy (mm 6) 6 (PR (shS S 1 dk (gcN S))), ia cy (mm 7) 6 N1_87]) := congrArg (fun z9 => [mO cy mm ik tl fm tz vl iw (nI (RC (shS S 1 dk (gcN S)))) (b2i (RC (shS S 1 dk (gcN S)) = 60)) om, ia cy (mm 1) 169 z9, ia cy (mm 4) 7 C, ia cy (mm 6) 6 (PR (shS S 1 dk (gcN S))), ia cy (mm 7) 6 N1_87]) (show (shS (shS S 1 dk (gcN S)) 0 dk (gcN (shS S 1 dk (gcN S)))) = S from (by rw [hws.2.2]; exact shS_back hod))
                  replace hP12 := (congrArg (fun z9 => va_P D vwCl z9 _) hq9).mp hP12
                  replace hD12 := (congrArg (fun z9 => va_D _ z9) hq9).mp hD12
                  clear hq9
                  refine lv_iload hx hb dX7_stop_125 (lv_at hl7 1 rfl) ?_
                  refine lv_if_eq (tgt := 170) hx hb dX7_stop_127 (by decide) (fun _ => ?_) (fun c => absurd (by decide) c)
                  have hq9 : spB S sn x2 x3 (k + 1) = spB S sn x2 x3 k := (hsp.1).trans (if_neg (fun z9 => absurd (z9.1.2.2.symm.trans c_102) (by decide)))
                  replace hl7 : lv_has ls7 11 [(10, .int (lost (shS S 1 dk (gcN S)))), (9, .int 0), (8, .int (b2i (k < np))), (7, .int (nI dk)), (6, .int (spL S sn x2 x3 k)), (5, .int (spB S sn x2 x3 (k + 1))), (0, .ref (mm 0)), (1, .int (nI sn)), (2, .int x2), (3, .int x3), (4, .int x4)] := (congrArg (fun z9 => lv_has ls7 11 [(10, .int (lost (shS S 1 dk (gcN S)))), (9, .int 0), (8, .int (b2i (k < np))), (7, .int (nI dk)), (6, .int (spL S sn x2 x3 k)), (5, .int z9), (0, .ref (mm 0)), (1, .int (nI sn)), (2, .int x2), (3, .int x3), (4, .int x4)]) hq9).mpr hl7
                  clear hq9
                  have hq9 : spL S sn x2 x3 (k + 1) = spL S sn x2 x3 k := (hsp.2).trans (if_neg (fun z9 => absurd (z9.1.2.2.symm.trans c_102) (by decide)))
                  replace hl7 : lv_has ls7 11 [(10, .int (lost (shS S 1 dk (gcN S)))), (9, .int 0), (8, .int (b2i (k < np))), (7, .int (nI dk)), (6, .int (spL S sn x2 x3 (k + 1))), (5, .int (spB S sn x2 x3 (k + 1))), (0, .ref (mm 0)), (1, .int (nI sn)), (2, .int x2), (3, .int x3), (4, .int x4)] := (congrArg (fun z9 => lv_has ls7 11 [(10, .int (lost (shS S 1 dk (gcN S)))), (9, .int 0), (8, .int (b2i (k < np))), (7, .int (nI dk)), (6, .int z9), (5, .int (spB S sn x2 x3 (k + 1))), (0, .ref (mm 0)), (1, .int (nI sn)), (2, .int x2), (3, .int x3), (4, .int x4)]) hq9).mpr hl7
                  clear hq9
                  refine lv_iload hx hb dX7_stop_170 (lv_at hl7 3 rfl) ?_
                  refine lv_iload_n hx hb dX7_stop_172 rfl (lv_at hl7 7 rfl) ?_
                  refine ln_eq (tgt := 180) dk sn rfl rfl (by omega) (by omega) hx hb dX7_stop_173 (by decide) (fun c_173 => ?_) (fun c_173 => ?_)
                  · refine lv_iconst (v := 0) hx hb dX7_stop_180 (by decide) ?_
                    refine lv_istore (lv' := [(8, .int 0), (10, .int (lost (shS S 1 dk (gcN S)))), (9, .int 0), (7, .int (nI dk)), (6, .int (spL S sn x2 x3 (k + 1))), (5, .int (spB S sn x2 x3 (k + 1))), (0, .ref (mm 0)), (1, .int (nI sn)), (2, .int x2), (3, .int x3), (4, .int x4)]) hx hb dX7_stop_181 hl7 (by decide) rfl (fun ls8 hl8 => ?_)
                    clear hl7 ls7
                    have hq9 : b2i (k + 1 < np) = 0 := b2i_f (fun z9 => by have h9 := hde.mp c_173; omega)
                    replace hl8 : lv_has ls8 11 [(8, .int (b2i (k + 1 < np))), (10, .int (lost (shS S 1 dk (gcN S)))), (9, .int 0), (7, .int (nI dk)), (6, .int (spL S sn x2 x3 (k + 1))), (5, .int (spB S sn x2 x3 (k + 1))), (0, .ref (mm 0)), (1, .int (nI sn)), (2, .int x2), (3, .int x3), (4, .int x4)] := (congrArg (fun z9 => lv_has ls8 11 [(8, .int z9), (10, .int (lost (shS S 1 dk (gcN S)))), (9, .int 0), (7, .int (nI dk)), (6, .int (spL S sn x2 x3 (k + 1))), (5, .int (spB S sn x2 x3 (k + 1))), (0, .ref (mm 0)), (1, .int (nI sn)), (2, .int x2), (3, .int x3), (4, .int x4)]) hq9).mpr hl8
                    clear hq9
                    refine lv_iload hx hb dX7_stop_183 (lv_at hl8 3 rfl) ?_
                    refine lv_iload_n hx hb dX7_stop_185 rfl (lv_at hl8 7 rfl) ?_
                    refine lv_isub hx hb dX7_stop_186 ?_
                    refine lv_iload_n hx hb dX7_stop_187 rfl (lv_at hl8 7 rfl) ?_
                    refine lv_iand hx hb dX7_stop_188 ?_
                    refine lv_istore (lv' := [(7, .int (((nI dk) - (nI sn)) &&& (nI sn))), (8, .int (b2i (k + 1 < np))), (10, .int (lost (shS S 1 dk (gcN S)))), (9, .int 0), (6, .int (spL S sn x2 x3 (k + 1))), (5, .int (spB S sn x2 x3 (k + 1))), (0, .ref (mm 0)), (1, .int (nI sn)), (2, .int x2), (3, .int x3), (4, .int x4)]) hx hb dX7_stop_189 hl8 (by decide) rfl (fun ls9 hl9 => ?_)
                    clear hl8 ls8
                    refine lv_goto (tgt := 64) hx hb dX7_stop_191 (by decide) ?_
                    exact ih_64 (k + 1, ((nI dk) - (nI sn)) &&& (nI sn), PR (shS S 1 dk (gcN S)), N1_87, nI (RC (shS S 1 dk (gcN S))), b2i (RC (shS S 1 dk (gcN S)) = 60)) (⟨(by dsimp only; omega), hq9⟩) (by (try dsimp only); omega) H12 locs12 ls9 hP12 hD12 hS12 (lv_sub hl9 [1, 0, 4, 5, 6, 7, 8, 9, 10] rfl)
                  · refine lv_iconst (v := 1) hx hb dX7_stop_176 (by decide) ?_
                    refine lv_goto (tgt := 181) hx hb dX7_stop_177 (by decide) ?_
                    refine lv_istore (lv' := [(8, .int 1), (10, .int (lost (shS S 1 dk (gcN S)))), (9, .int 0), (7, .int (nI dk)), (6, .int (spL S sn x2 x3 (k + 1))), (5, .int (spB S sn x2 x3 (k + 1))), (0, .ref (mm 0)), (1, .int (nI sn)), (2, .int x2), (3, .int x3), (4, .int x4)]) hx hb dX7_stop_181 hl7 (by decide) rfl (fun ls8 hl8 => ?_)
                    clear hl7 ls7
                    have hq9 : b2i (k + 1 < np) = 1 := b2i_t (by have h9 := mt hde.mpr c_173; omega)
                    replace hl8 : lv_has ls8 11 [(8, .int (b2i (k + 1 < np))), (10, .int (lost (shS S 1 dk (gcN S)))), (9, .int 0), (7, .int (nI dk)), (6, .int (spL S sn x2 x3 (k + 1))), (5, .int (spB S sn x2 x3 (k + 1))), (0, .ref (mm 0)), (1, .int (nI sn)), (2, .int x2), (3, .int x3), (4, .int x4)] := (congrArg (fun z9 => lv_has ls8 11 [(8, .int z9), (10, .int (lost (shS S 1 dk (gcN S)))), (9, .int 0), (7, .int (nI dk)), (6, .int (spL S sn x2 x3 (k + 1))), (5, .int (spB S sn x2 x3 (k + 1))), (0, .ref (mm 0)), (1, .int (nI sn)), (2, .int x2), (3, .int x3), (4, .int x4)]) hq9).mpr hl8
                    clear hq9
                    refine lv_iload hx hb dX7_stop_183 (lv_at hl8 3 rfl) ?_
                    refine lv_iload_n hx hb dX7_stop_185 rfl (lv_at hl8 7 rfl) ?_
                    refine lv_isub hx hb dX7_stop_186 ?_
                    refine lv_iload_n hx hb dX7_stop_187 rfl (lv_at hl8 7 rfl) ?_
                    refine lv_iand hx hb dX7_stop_188 ?_
                    refine lv_istore (lv' := [(7, .int (((nI dk) - (nI sn)) &&& (nI sn))), (8, .int (b2i (k + 1 < np))), (10, .int (lost (shS S 1 dk (gcN S)))), (9, .int 0), (6, .int (spL S sn x2 x3 (k + 1))), (5, .int (spB S sn x2 x3 (k + 1))), (0, .ref (mm 0)), (1, .int (nI sn)), (2, .int x2), (3, .int x3), (4, .int x4)]) hx hb dX7_stop_189 hl8 (by decide) rfl (fun ls9 hl9 => ?_)
                    clear hl8 ls8
                    refine lv_goto (tgt := 64) hx hb dX7_stop_191 (by decide) ?_
                    exact ih_64 (k + 1, ((nI dk) - (nI sn)) &&& (nI sn), PR (shS S 1 dk (gcN S)), N1_87, nI (RC (shS S 1 dk (gcN S))), b2i (RC (shS S 1 dk (gcN S)) = 60)) (⟨(by dsimp only; omega), hq9⟩) (by (try dsimp only); omega) H12 locs12 ls9 hP12 hD12 hS12 (lv_sub hl9 [1, 0, 4, 5, 6, 7, 8, 9, 10] rfl)
                · refine lv_iconst (v := 1) hx hb dX7_stop_105 (by decide) ?_
                  refine lv_goto (tgt := 110) hx hb dX7_stop_106 (by decide) ?_
                  refine lv_istore (lv' := [(9, .int 1), (8, .int (b2i (k < np))), (7, .int (nI dk)), (6, .int (spL S sn x2 x3 k)), (5, .int (spB S sn x2 x3 k)), (0, .ref (mm 0)), (1, .int (nI sn)), (2, .int x2), (3, .int x3), (4, .int x4)]) hx hb dX7_stop_110 hl5 (by decide) rfl (fun ls6 hl6 => ?_)
                  clear hl5 ls5
                  refine lv_aload_n hx hb dX7_stop_112 rfl (lv_at hl6 5 rfl) ?_
                  refine rV_i (wc := [mO cy mm ik tl fm tz vl iw (nI (RC (shS S 1 dk (gcN S)))) (b2i (RC (shS S 1 dk (gcN S)) = 60)) om, ia cy (mm 1) 169 (shS S 1 dk (gcN S)), ia cy (mm 6) 6 (PR (shS S 1 dk (gcN S)))]) (rest := []) hx hb hml hown hw hG hK hP10 hS10 hA hl6 kc_X7_lost kw_5_105 [] (c_X7_lost l D cy G H10.size mm ik tl fm tz vl iw (nI (RC (shS S 1 dk (gcN S)))) (b2i (RC (shS S 1 dk (gcN S)) = 60)) om (shS S 1 dk (gcN S)) (PR (shS S 1 dk (gcN S))) hws.1) [0, 1, 3] rfl 0 rfl rfl rfl rfl rfl (Nat.le_of_ble_eq_true rfl) ⟨Nat.le_of_ble_eq_true rfl, Nat.le_of_ble_eq_true rfl⟩ dX7_stop_113 ⟨Nat.le_of_ble_eq_true rfl, Nat.le_of_ble_eq_true rfl⟩ (fun r_113 H11 locs11 hr_113 hP11 hS11 => ?_)
                  have hD11 := hD10
                  clear hP10 hD10 hS10 locs10 H10
                  subst hr_113
                  refine tp (show (frs (shS S 1 dk (gcN S)) (PR (shS S 1 dk (gcN S))) (gcN (shS S 1 dk (gcN S))) * (shS S 1 dk (gcN S)) 2) = lost (shS S 1 dk (gcN S)) from rfl) ?_
                  refine lv_istore (lv' := [(10, .int (lost (shS S 1 dk (gcN S)))), (9, .int 1), (8, .int (b2i (k < np))), (7, .int (nI dk)), (6, .int (spL S sn x2 x3 k)), (5, .int (spB S sn x2 x3 k)), (0, .ref (mm 0)), (1, .int (nI sn)), (2, .int x2), (3, .int x3), (4, .int x4)]) hx hb dX7_stop_116 hl6 (by decide) rfl (fun ls7 hl7 => ?_)
                  clear hl6 ls6
                  refine lv_aload_n hx hb dX7_stop_118 rfl (lv_at hl7 6 rfl) ?_
                  refine lv_iload hx hb dX7_stop_119 (lv_at hl7 3 rfl) ?_
                  refine lv_iconst (v := 0) hx hb dX7_stop_121 (by decide) ?_
                  refine cV_v (wc := [mO cy mm ik tl fm tz vl iw (nI (RC (shS S 1 dk (gcN S)))) (b2i (RC (shS S 1 dk (gcN S)) = 60)) om, ia cy (mm 1) 169 (shS S 1 dk (gcN S))]) (wr := [ia cy (mm 4) 7 C, ia cy (mm 6) 6 (PR (shS S 1 dk (gcN S))), ia cy (mm 7) 6 N1_87]) (rest := []) hx hb hml hown hw hG hK hP11 hD11 hS11 hA hl7 kc_X7_shuts kw_5_154 [.int (nI dk), .int 0] (c_X7_shuts l D cy G H11.size mm ik tl fm tz vl iw (nI (RC (shS S 1 dk (gcN S)))) (b2i (RC (shS S 1 dk (gcN S)) = 60)) om (shS S 1 dk (gcN S)) dk 0 hws.1 (by omega)) [0, 1] [2, 3, 4] rfl rfl rfl rfl rfl 0 rfl rfl rfl rfl rfl (Nat.le_of_ble_eq_true rfl) ⟨Nat.le_of_ble_eq_true rfl, Nat.le_of_ble_eq_true rfl⟩ dX7_stop_122 ⟨Nat.le_of_ble_eq_true rfl, Nat.le_of_ble_eq_true rfl⟩ (fun u9 H12 locs12 hu9 hP12 hD12 hS12 => ?_)
                  clear hP11 hD11 hS11 locs11 H11
                  replace hP12 : va_P D vwCl ([ia cy (mm 4) 7 C, ia cy (mm 6) 6 (PR (shS S 1 dk (gcN S))), ia cy (mm 7) 6 N1_87, mO cy mm ik tl fm tz vl iw (nI (RC (shS S 1 dk (gcN S)))) (b2i (RC (shS S 1 dk (gcN S)) = 60)) om, ia cy (mm 1) 169 (shS (shS S 1 dk (gcN S)) 0 dk (gcN (shS S 1 dk (gcN S))))]) H12 := hP12
                  replace hD12 : va_D (va_A _ sz) ([ia cy (mm 4) 7 C, ia cy (mm 6) 6 (PR (shS S 1 dk (gcN S))), ia cy (mm 7) 6 N1_87, mO cy mm ik tl fm tz vl iw (nI (RC (shS S 1 dk (gcN S)))) (b2i (RC (shS S 1 dk (gcN S)) = 60)) om, ia cy (mm 1) 169 (shS (shS S 1 dk (gcN S)) 0 dk (gcN (shS S 1 dk (gcN S))))]) := hD12
                  replace hP12 := hP12.sub (ws' := [mO cy mm ik tl fm tz vl iw (nI (RC (shS S 1 dk (gcN S)))) (b2i (RC (shS S 1 dk (gcN S)) = 60)) om, ia cy (mm 1) 169 (shS (shS S 1 dk (gcN S)) 0 dk (gcN (shS S 1 dk (gcN S)))), ia cy (mm 4) 7 C, ia cy (mm 6) 6 (PR (shS S 1 dk (gcN S))), ia cy (mm 7) 6 N1_87]) [3, 4, 0, 1, 2] rfl
                  replace hD12 := hD12.sub (ws' := [mO cy mm ik tl fm tz vl iw (nI (RC (shS S 1 dk (gcN S)))) (b2i (RC (shS S 1 dk (gcN S)) = 60)) om, ia cy (mm 1) 169 (shS (shS S 1 dk (gcN S)) 0 dk (gcN (shS S 1 dk (gcN S)))), ia cy (mm 4) 7 C, ia cy (mm 6) 6 (PR (shS S 1 dk (gcN S))), ia cy (mm 7) 6 N1_87]) [3, 4, 0, 1, 2] (by decide) rfl
                  have hq9 : ([mO cy mm ik tl fm tz vl iw (nI (RC (shS S 1 dk (gcN S)))) (b2i (RC (shS S 1 dk (gcN S)) = 60)) om, ia cy (mm 1) 169 (shS (shS S 1 dk (gcN S)) 0 dk (gcN (shS S 1 dk (gcN S)))), ia cy (mm 4) 7 C, ia cy (mm 6) 6 (PR (shS S 1 dk (gcN S))), ia cy (mm 7) 6 N1_87]) = ([mO cy mm ik tl fm tz vl iw (nI (RC (shS S 1 dk (gcN S)))) (b2i (RC (shS S 1 dk (gcN S)) = 60)) om, ia cy (mm 1) 169 S, ia cy (mm 4) 7 C, ia cy (mm 6) 6 (PR (shS S 1 dk (gcN S))), ia cy (mm 7) 6 N1_87]) := congrArg (fun z9 => [mO cy mm ik tl fm tz vl iw (nI (RC (shS S 1 dk (gcN S)))) (b2i (RC (shS S 1 dk (gcN S)) = 60)) om, ia cy (mm 1) 169 z9, ia cy (mm 4) 7 C, ia cy (mm 6) 6 (PR (shS S 1 dk (gcN S))), ia cy (mm 7) 6 N1_87]) (show (shS (shS S 1 dk (gcN S)) 0 dk (gcN (shS S 1 dk (gcN S)))) = S from (by rw [hws.2.2]; exact shS_back hod))
                  replace hP12 := (congrArg (fun z9 => va_P D vwCl z9 _) hq9).mp hP12
                  replace hD12 := (congrArg (fun z9 => va_D _ z9) hq9).mp hD12
                  clear hq9
                  refine lv_iload hx hb dX7_stop_125 (lv_at hl7 1 rfl) ?_
                  refine lv_if_eq (tgt := 170) hx hb dX7_stop_127 (by decide) (fun c => absurd c (by decide)) (fun _ => ?_)
                  refine lv_iload hx hb dX7_stop_130 (lv_at hl7 5 rfl) ?_
                  refine lv_if_lt (tgt := 162) hx hb dX7_stop_132 (by decide) (fun c_132 => ?_) (fun c_132 => ?_)
                  · refine lv_iload hx hb dX7_stop_162 (lv_at hl7 3 rfl) ?_
                    refine lv_istore (lv' := [(5, .int (nI dk)), (10, .int (lost (shS S 1 dk (gcN S)))), (9, .int 1), (8, .int (b2i (k < np))), (7, .int (nI dk)), (6, .int (spL S sn x2 x3 k)), (0, .ref (mm 0)), (1, .int (nI sn)), (2, .int x2), (3, .int x3), (4, .int x4)]) hx hb dX7_stop_164 hl7 (by decide) rfl (fun ls8 hl8 => ?_)
                    clear hl7 ls7
                    refine lv_iload hx hb dX7_stop_166 (lv_at hl8 1 rfl) ?_
                    refine lv_istore (lv' := [(6, .int (lost (shS S 1 dk (gcN S)))), (5, .int (nI dk)), (10, .int (lost (shS S 1 dk (gcN S)))), (9, .int 1), (8, .int (b2i (k < np))), (7, .int (nI dk)), (0, .ref (mm 0)), (1, .int (nI sn)), (2, .int x2), (3, .int x3), (4, .int x4)]) hx hb dX7_stop_168 hl8 (by decide) rfl (fun ls9 hl9 => ?_)
                    clear hl8 ls8
                    have hq9 : spB S sn x2 x3 (k + 1) = nI dk := (hsp.1).trans (if_pos ⟨⟨Int32.not_lt.mp c_76, Int32.not_lt.mp c_95, Bool.eq_false_iff.mpr c_102⟩, Or.inl c_132⟩)
                    replace hl9 : lv_has ls9 11 [(6, .int (lost (shS S 1 dk (gcN S)))), (5, .int (spB S sn x2 x3 (k + 1))), (10, .int (lost (shS S 1 dk (gcN S)))), (9, .int 1), (8, .int (b2i (k < np))), (7, .int (nI dk)), (0, .ref (mm 0)), (1, .int (nI sn)), (2, .int x2), (3, .int x3), (4, .int x4)] := (congrArg (fun z9 => lv_has ls9 11 [(6, .int (lost (shS S 1 dk (gcN S)))), (5, .int z9), (10, .int (lost (shS S 1 dk (gcN S)))), (9, .int 1), (8, .int (b2i (k < np))), (7, .int (nI dk)), (0, .ref (mm 0)), (1, .int (nI sn)), (2, .int x2), (3, .int x3), (4, .int x4)]) hq9).mpr hl9
                    clear hq9
                    have hq9 : spL S sn x2 x3 (k + 1) = lost (shS S 1 dk (gcN S)) := (hsp.2).trans (if_pos ⟨⟨Int32.not_lt.mp c_76, Int32.not_lt.mp c_95, Bool.eq_false_iff.mpr c_102⟩, Or.inl c_132⟩)
                    replace hl9 : lv_has ls9 11 [(6, .int (spL S sn x2 x3 (k + 1))), (5, .int (spB S sn x2 x3 (k + 1))), (10, .int (lost (shS S 1 dk (gcN S)))), (9, .int 1), (8, .int (b2i (k < np))), (7, .int (nI dk)), (0, .ref (mm 0)), (1, .int (nI sn)), (2, .int x2), (3, .int x3), (4, .int x4)] := (congrArg (fun z9 => lv_has ls9 11 [(6, .int z9), (5, .int (spB S sn x2 x3 (k + 1))), (10, .int (lost (shS S 1 dk (gcN S)))), (9, .int 1), (8, .int (b2i (k < np))), (7, .int (nI dk)), (0, .ref (mm 0)), (1, .int (nI sn)), (2, .int x2), (3, .int x3), (4, .int x4)]) hq9).mpr hl9
                    clear hq9
                    refine lv_iload hx hb dX7_stop_170 (lv_at hl9 5 rfl) ?_
                    refine lv_iload_n hx hb dX7_stop_172 rfl (lv_at hl9 7 rfl) ?_
                    refine ln_eq (tgt := 180) dk sn rfl rfl (by omega) (by omega) hx hb dX7_stop_173 (by decide) (fun c_173 => ?_) (fun c_173 => ?_)
                    · refine lv_iconst (v := 0) hx hb dX7_stop_180 (by decide) ?_
                      refine lv_istore (lv' := [(8, .int 0), (6, .int (spL S sn x2 x3 (k + 1))), (5, .int (spB S sn x2 x3 (k + 1))), (10, .int (lost (shS S 1 dk (gcN S)))), (9, .int 1), (7, .int (nI dk)), (0, .ref (mm 0)), (1, .int (nI sn)), (2, .int x2), (3, .int x3), (4, .int x4)]) hx hb dX7_stop_181 hl9 (by decide) rfl (fun ls10 hl10 => ?_)
                      clear hl9 ls9
                      have hq9 : b2i (k + 1 < np) = 0 := b2i_f (fun z9 => by have h9 := hde.mp c_173; omega)
                      replace hl10 : lv_has ls10 11 [(8, .int (b2i (k + 1 < np))), (6, .int (spL S sn x2 x3 (k + 1))), (5, .int (spB S sn x2 x3 (k + 1))), (10, .int (lost (shS S 1 dk (gcN S)))), (9, .int 1), (7, .int (nI dk)), (0, .ref (mm 0)), (1, .int (nI sn)), (2, .int x2), (3, .int x3), (4, .int x4)] := (congrArg (fun z9 => lv_has ls10 11 [(8, .int z9), (6, .int (spL S sn x2 x3 (k + 1))), (5, .int (spB S sn x2 x3 (k + 1))), (10, .int (lost (shS S 1 dk (gcN S)))), (9, .int 1), (7, .int (nI dk)), (0, .ref (mm 0)), (1, .int (nI sn)), (2, .int x2), (3, .int x3), (4, .int x4)]) hq9).mpr hl10
                      clear hq9
                      refine lv_iload hx hb dX7_stop_183 (lv_at hl10 5 rfl) ?_
                      refine lv_iload_n hx hb dX7_stop_185 rfl (lv_at hl10 7 rfl) ?_
                      refine lv_isub hx hb dX7_stop_186 ?_
                      refine lv_iload_n hx hb dX7_stop_187 rfl (lv_at hl10 7 rfl) ?_
                      refine lv_iand hx hb dX7_stop_188 ?_
                      refine lv_istore (lv' := [(7, .int (((nI dk) - (nI sn)) &&& (nI sn))), (8, .int (b2i (k + 1 < np))), (6, .int (spL S sn x2 x3 (k + 1))), (5, .int (spB S sn x2 x3 (k + 1))), (10, .int (lost (shS S 1 dk (gcN S)))), (9, .int 1), (0, .ref (mm 0)), (1, .int (nI sn)), (2, .int x2), (3, .int x3), (4, .int x4)]) hx hb dX7_stop_189 hl10 (by decide) rfl (fun ls11 hl11 => ?_)
                      clear hl10 ls10
                      refine lv_goto (tgt := 64) hx hb dX7_stop_191 (by decide) ?_
                      exact ih_64 (k + 1, ((nI dk) - (nI sn)) &&& (nI sn), PR (shS S 1 dk (gcN S)), N1_87, nI (RC (shS S 1 dk (gcN S))), b2i (RC (shS S 1 dk (gcN S)) = 60)) (⟨(by dsimp only; omega), hq9⟩) (by (try dsimp only); omega) H12 locs12 ls11 hP12 hD12 hS12 (lv_sub hl11 [1, 0, 2, 3, 6, 7, 8, 9, 10] rfl)
                    · refine lv_iconst (v := 1) hx hb dX7_stop_176 (by decide) ?_
                      refine lv_goto (tgt := 181) hx hb dX7_stop_177 (by decide) ?_
                      refine lv_istore (lv' := [(8, .int 1), (6, .int (spL S sn x2 x3 (k + 1))), (5, .int (spB S sn x2 x3 (k + 1))), (10, .int (lost (shS S 1 dk (gcN S)))), (9, .int 1), (7, .int (nI dk)), (0, .ref (mm 0)), (1, .int (nI sn)), (2, .int x2), (3, .int x3), (4, .int x4)]) hx hb dX7_stop_181 hl9 (by decide) rfl (fun ls10 hl10 => ?_)
                      clear hl9 ls9
                      have hq9 : b2i (k + 1 < np) = 1 := b2i_t (by have h9 := mt hde.mpr c_173; omega)
                      replace hl10 : lv_has ls10 11 [(8, .int (b2i (k + 1 < np))), (6, .int (spL S sn x2 x3 (k + 1))), (5, .int (spB S sn x2 x3 (k + 1))), (10, .int (lost (shS S 1 dk (gcN S)))), (9, .int 1), (7, .int (nI dk)), (0, .ref (mm 0)), (1, .int (nI sn)), (2, .int x2), (3, .int x3), (4, .int x4)] := (congrArg (fun z9 => lv_has ls10 11 [(8, .int z9), (6, .int (spL S sn x2 x3 (k + 1))), (5, .int (spB S sn x2 x3 (k + 1))), (10, .int (lost (shS S 1 dk (gcN S)))), (9, .int 1), (7, .int (nI dk)), (0, .ref (mm 0)), (1, .int (nI sn)), (2, .int x2), (3, .int x3), (4, .int x4)]) hq9).mpr hl10
                      clear hq9
                      refine lv_iload hx hb dX7_stop_183 (lv_at hl10 5 rfl) ?_
                      refine lv_iload_n hx hb dX7_stop_185 rfl (lv_at hl10 7 rfl) ?_
                      refine lv_isub hx hb dX7_stop_186 ?_
                      refine lv_iload_n hx hb dX7_stop_187 rfl (lv_at hl10 7 rfl) ?_
                      refine lv_iand hx hb dX7_stop_188 ?_
                      refine lv_istore (lv' := [(7, .int (((nI dk) - (nI sn)) &&& (nI sn))), (8, .int (b2i (k + 1 < np))), (6, .int (spL S sn x2 x3 (k + 1))), (5, .int (spB S sn x2 x3 (k + 1))), (10, .int (lost (shS S 1 dk (gcN S)))), (9, .int 1), (0, .ref (mm 0)), (1, .int (nI sn)), (2, .int x2), (3, .int x3), (4, .int x4)]) hx hb dX7_stop_189 hl10 (by decide) rfl (fun ls11 hl11 => ?_)
                      clear hl10 ls10
                      refine lv_goto (tgt := 64) hx hb dX7_stop_191 (by decide) ?_
                      exact ih_64 (k + 1, ((nI dk) - (nI sn)) &&& (nI sn), PR (shS S 1 dk (gcN S)), N1_87, nI (RC (shS S 1 dk (gcN S))), b2i (RC (shS S 1 dk (gcN S)) = 60)) (⟨(by dsimp only; omega), hq9⟩) (by (try dsimp only); omega) H12 locs12 ls11 hP12 hD12 hS12 (lv_sub hl11 [1, 0, 2, 3, 6, 7, 8, 9, 10] rfl)
                  · refine lv_iload hx hb dX7_stop_135 (lv_at hl7 0 rfl) ?_
                    refine lv_iload hx hb dX7_stop_137 (lv_at hl7 4 rfl) ?_
                    refine lv_icmp_lt (tgt := 162) hx hb dX7_stop_139 (by decide) (fun c_139 => ?_) (fun c_139 => ?_)
                    · refine lv_iload hx hb dX7_stop_162 (lv_at hl7 3 rfl) ?_
                      refine lv_istore (lv' := [(5, .int (nI dk)), (10, .int (lost (shS S 1 dk (gcN S)))), (9, .int 1), (8, .int (b2i (k < np))), (7, .int (nI dk)), (6, .int (spL S sn x2 x3 k)), (0, .ref (mm 0)), (1, .int (nI sn)), (2, .int x2), (3, .int x3), (4, .int x4)]) hx hb dX7_stop_164 hl7 (by decide) rfl (fun ls8 hl8 => ?_)
                      clear hl7 ls7
                      refine lv_iload hx hb dX7_stop_166 (lv_at hl8 1 rfl) ?_
                      refine lv_istore (lv' := [(6, .int (lost (shS S 1 dk (gcN S)))), (5, .int (nI dk)), (10, .int (lost (shS S 1 dk (gcN S)))), (9, .int 1), (8, .int (b2i (k < np))), (7, .int (nI dk)), (0, .ref (mm 0)), (1, .int (nI sn)), (2, .int x2), (3, .int x3), (4, .int x4)]) hx hb dX7_stop_168 hl8 (by decide) rfl (fun ls9 hl9 => ?_)
                      clear hl8 ls8
                      have hq9 : spB S sn x2 x3 (k + 1) = nI dk := (hsp.1).trans (if_pos ⟨⟨Int32.not_lt.mp c_76, Int32.not_lt.mp c_95, Bool.eq_false_iff.mpr c_102⟩, Or.inr (Or.inl c_139)⟩)
                      replace hl9 : lv_has ls9 11 [(6, .int (lost (shS S 1 dk (gcN S)))), (5, .int (spB S sn x2 x3 (k + 1))), (10, .int (lost (shS S 1 dk (gcN S)))), (9, .int 1), (8, .int (b2i (k < np))), (7, .int (nI dk)), (0, .ref (mm 0)), (1, .int (nI sn)), (2, .int x2), (3, .int x3), (4, .int x4)] := (congrArg (fun z9 => lv_has ls9 11 [(6, .int (lost (shS S 1 dk (gcN S)))), (5, .int z9), (10, .int (lost (shS S 1 dk (gcN S)))), (9, .int 1), (8, .int (b2i (k < np))), (7, .int (nI dk)), (0, .ref (mm 0)), (1, .int (nI sn)), (2, .int x2), (3, .int x3), (4, .int x4)]) hq9).mpr hl9
                      clear hq9
                      have hq9 : spL S sn x2 x3 (k + 1) = lost (shS S 1 dk (gcN S)) := (hsp.2).trans (if_pos ⟨⟨Int32.not_lt.mp c_76, Int32.not_lt.mp c_95, Bool.eq_false_iff.mpr c_102⟩, Or.inr (Or.inl c_139)⟩)
                      replace hl9 : lv_has ls9 11 [(6, .int (spL S sn x2 x3 (k + 1))), (5, .int (spB S sn x2 x3 (k + 1))), (10, .int (lost (shS S 1 dk (gcN S)))), (9, .int 1), (8, .int (b2i (k < np))), (7, .int (nI dk)), (0, .ref (mm 0)), (1, .int (nI sn)), (2, .int x2), (3, .int x3), (4, .int x4)] := (congrArg (fun z9 => lv_has ls9 11 [(6, .int z9), (5, .int (spB S sn x2 x3 (k + 1))), (10, .int (lost (shS S 1 dk (gcN S)))), (9, .int 1), (8, .int (b2i (k < np))), (7, .int (nI dk)), (0, .ref (mm 0)), (1, .int (nI sn)), (2, .int x2), (3, .int x3), (4, .int x4)]) hq9).mpr hl9
                      clear hq9
                      refine lv_iload hx hb dX7_stop_170 (lv_at hl9 5 rfl) ?_
                      refine lv_iload_n hx hb dX7_stop_172 rfl (lv_at hl9 7 rfl) ?_
                      refine ln_eq (tgt := 180) dk sn rfl rfl (by omega) (by omega) hx hb dX7_stop_173 (by decide) (fun c_173 => ?_) (fun c_173 => ?_)
                      · refine lv_iconst (v := 0) hx hb dX7_stop_180 (by decide) ?_
                        refine lv_istore (lv' := [(8, .int 0), (6, .int (spL S sn x2 x3 (k + 1))), (5, .int (spB S sn x2 x3 (k + 1))), (10, .int (lost (shS S 1 dk (gcN S)))), (9, .int 1), (7, .int (nI dk)), (0, .ref (mm 0)), (1, .int (nI sn)), (2, .int x2), (3, .int x3), (4, .int x4)]) hx hb dX7_stop_181 hl9 (by decide) rfl (fun ls10 hl10 => ?_)
                        clear hl9 ls9
                        have hq9 : b2i (k + 1 < np) = 0 := b2i_f (fun z9 => by have h9 := hde.mp c_173; omega)
                        replace hl10 : lv_has ls10 11 [(8, .int (b2i (k + 1 < np))), (6, .int (spL S sn x2 x3 (k + 1))), (5, .int (spB S sn x2 x3 (k + 1))), (10, .int (lost (shS S 1 dk (gcN S)))), (9, .int 1), (7, .int (nI dk)), (0, .ref (mm 0)), (1, .int (nI sn)), (2, .int x2), (3, .int x3), (4, .int x4)] := (congrArg (fun z9 => lv_has ls10 11 [(8, .int z9), (6, .int (spL S sn x2 x3 (k + 1))), (5, .int (spB S sn x2 x3 (k + 1))), (10, .int (lost (shS S 1 dk (gcN S)))), (9, .int 1), (7, .int (nI dk)), (0, .ref (mm 0)), (1, .int (nI sn)), (2, .int x2), (3, .int x3), (4, .int x4)]) hq9).mpr hl10
                        clear hq9
                        refine lv_iload hx hb dX7_stop_183 (lv_at hl10 5 rfl) ?_
                        refine lv_iload_n hx hb dX7_stop_185 rfl (lv_at hl10 7 rfl) ?_
                        refine lv_isub hx hb dX7_stop_186 ?_
                        refine lv_iload_n hx hb dX7_stop_187 rfl (lv_at hl10 7 rfl) ?_
                        refine lv_iand hx hb dX7_stop_188 ?_
                        refine lv_istore (lv' := [(7, .int (((nI dk) - (nI sn)) &&& (nI sn))), (8, .int (b2i (k + 1 < np))), (6, .int (spL S sn x2 x3 (k + 1))), (5, .int (spB S sn x2 x3 (k + 1))), (10, .int (lost (shS S 1 dk (gcN S)))), (9, .int 1), (0, .ref (mm 0)), (1, .int (nI sn)), (2, .int x2), (3, .int x3), (4, .int x4)]) hx hb dX7_stop_189 hl10 (by decide) rfl (fun ls11 hl11 => ?_)
                        clear hl10 ls10
                        refine lv_goto (tgt := 64) hx hb dX7_stop_191 (by decide) ?_
                        exact ih_64 (k + 1, ((nI dk) - (nI sn)) &&& (nI sn), PR (shS S 1 dk (gcN S)), N1_87, nI (RC (shS S 1 dk (gcN S))), b2i (RC (shS S 1 dk (gcN S)) = 60)) (⟨(by dsimp only; omega), hq9⟩) (by (try dsimp only); omega) H12 locs12 ls11 hP12 hD12 hS12 (lv_sub hl11 [1, 0, 2, 3, 6, 7, 8, 9, 10] rfl)
                      · refine lv_iconst (v := 1) hx hb dX7_stop_176 (by decide) ?_
                        refine lv_goto (tgt := 181) hx hb dX7_stop_177 (by decide) ?_
                        refine lv_istore (lv' := [(8, .int 1), (6, .int (spL S sn x2 x3 (k + 1))), (5, .int (spB S sn x2 x3 (k + 1))), (10, .int (lost (shS S 1 dk (gcN S)))), (9, .int 1), (7, .int (nI dk)), (0, .ref (mm 0)), (1, .int (nI sn)), (2, .int x2), (3, .int x3), (4, .int x4)]) hx hb dX7_stop_181 hl9 (by decide) rfl (fun ls10 hl10 => ?_)
                        clear hl9 ls9
                        have hq9 : b2i (k + 1 < np) = 1 := b2i_t (by have h9 := mt hde.mpr c_173; omega)
                        replace hl10 : lv_has ls10 11 [(8, .int (b2i (k + 1 < np))), (6, .int (spL S sn x2 x3 (k + 1))), (5, .int (spB S sn x2 x3 (k + 1))), (10, .int (lost (shS S 1 dk (gcN S)))), (9, .int 1), (7, .int (nI dk)), (0, .ref (mm 0)), (1, .int (nI sn)), (2, .int x2), (3, .int x3), (4, .int x4)] := (congrArg (fun z9 => lv_has ls10 11 [(8, .int z9), (6, .int (spL S sn x2 x3 (k + 1))), (5, .int (spB S sn x2 x3 (k + 1))), (10, .int (lost (shS S 1 dk (gcN S)))), (9, .int 1), (7, .int (nI dk)), (0, .ref (mm 0)), (1, .int (nI sn)), (2, .int x2), (3, .int x3), (4, .int x4)]) hq9).mpr hl10
                        clear hq9
                        refine lv_iload hx hb dX7_stop_183 (lv_at hl10 5 rfl) ?_
                        refine lv_iload_n hx hb dX7_stop_185 rfl (lv_at hl10 7 rfl) ?_
                        refine lv_isub hx hb dX7_stop_186 ?_
                        refine lv_iload_n hx hb dX7_stop_187 rfl (lv_at hl10 7 rfl) ?_
                        refine lv_iand hx hb dX7_stop_188 ?_
                        refine lv_istore (lv' := [(7, .int (((nI dk) - (nI sn)) &&& (nI sn))), (8, .int (b2i (k + 1 < np))), (6, .int (spL S sn x2 x3 (k + 1))), (5, .int (spB S sn x2 x3 (k + 1))), (10, .int (lost (shS S 1 dk (gcN S)))), (9, .int 1), (0, .ref (mm 0)), (1, .int (nI sn)), (2, .int x2), (3, .int x3), (4, .int x4)]) hx hb dX7_stop_189 hl10 (by decide) rfl (fun ls11 hl11 => ?_)
                        clear hl10 ls10
                        refine lv_goto (tgt := 64) hx hb dX7_stop_191 (by decide) ?_
                        exact ih_64 (k + 1, ((nI dk) - (nI sn)) &&& (nI sn), PR (shS S 1 dk (gcN S)), N1_87, nI (RC (shS S 1 dk (gcN S))), b2i (RC (shS S 1 dk (gcN S)) = 60)) (⟨(by dsimp only; omega), hq9⟩) (by (try dsimp only); omega) H12 locs12 ls11 hP12 hD12 hS12 (lv_sub hl11 [1, 0, 2, 3, 6, 7, 8, 9, 10] rfl)
                    · refine lv_iload hx hb dX7_stop_142 (lv_at hl7 0 rfl) ?_
                      refine lv_iload hx hb dX7_stop_144 (lv_at hl7 4 rfl) ?_
                      refine lv_icmp_ne (tgt := 170) hx hb dX7_stop_146 (by decide) (fun c_146 => ?_) (fun c_146 => ?_)
                      · have hq9 : spB S sn x2 x3 (k + 1) = spB S sn x2 x3 k := (hsp.1).trans (if_neg (fun z9 => z9.2.elim c_132 (fun q9 => q9.elim c_139 (fun r9 => c_146 r9.1))))
                        replace hl7 : lv_has ls7 11 [(10, .int (lost (shS S 1 dk (gcN S)))), (9, .int 1), (8, .int (b2i (k < np))), (7, .int (nI dk)), (6, .int (spL S sn x2 x3 k)), (5, .int (spB S sn x2 x3 (k + 1))), (0, .ref (mm 0)), (1, .int (nI sn)), (2, .int x2), (3, .int x3), (4, .int x4)] := (congrArg (fun z9 => lv_has ls7 11 [(10, .int (lost (shS S 1 dk (gcN S)))), (9, .int 1), (8, .int (b2i (k < np))), (7, .int (nI dk)), (6, .int (spL S sn x2 x3 k)), (5, .int z9), (0, .ref (mm 0)), (1, .int (nI sn)), (2, .int x2), (3, .int x3), (4, .int x4)]) hq9).mpr hl7
                        clear hq9
                        have hq9 : spL S sn x2 x3 (k + 1) = spL S sn x2 x3 k := (hsp.2).trans (if_neg (fun z9 => z9.2.elim c_132 (fun q9 => q9.elim c_139 (fun r9 => c_146 r9.1))))
                        replace hl7 : lv_has ls7 11 [(10, .int (lost (shS S 1 dk (gcN S)))), (9, .int 1), (8, .int (b2i (k < np))), (7, .int (nI dk)), (6, .int (spL S sn x2 x3 (k + 1))), (5, .int (spB S sn x2 x3 (k + 1))), (0, .ref (mm 0)), (1, .int (nI sn)), (2, .int x2), (3, .int x3), (4, .int x4)] := (congrArg (fun z9 => lv_has ls7 11 [(10, .int (lost (shS S 1 dk (gcN S)))), (9, .int 1), (8, .int (b2i (k < np))), (7, .int (nI dk)), (6, .int z9), (5, .int (spB S sn x2 x3 (k + 1))), (0, .ref (mm 0)), (1, .int (nI sn)), (2, .int x2), (3, .int x3), (4, .int x4)]) hq9).mpr hl7
                        clear hq9
                        refine lv_iload hx hb dX7_stop_170 (lv_at hl7 3 rfl) ?_
                        refine lv_iload_n hx hb dX7_stop_172 rfl (lv_at hl7 7 rfl) ?_
                        refine ln_eq (tgt := 180) dk sn rfl rfl (by omega) (by omega) hx hb dX7_stop_173 (by decide) (fun c_173 => ?_) (fun c_173 => ?_)
                        · refine lv_iconst (v := 0) hx hb dX7_stop_180 (by decide) ?_
                          refine lv_istore (lv' := [(8, .int 0), (10, .int (lost (shS S 1 dk (gcN S)))), (9, .int 1), (7, .int (nI dk)), (6, .int (spL S sn x2 x3 (k + 1))), (5, .int (spB S sn x2 x3 (k + 1))), (0, .ref (mm 0)), (1, .int (nI sn)), (2, .int x2), (3, .int x3), (4, .int x4)]) hx hb dX7_stop_181 hl7 (by decide) rfl (fun ls8 hl8 => ?_)
                          clear hl7 ls7
                          have hq9 : b2i (k + 1 < np) = 0 := b2i_f (fun z9 => by have h9 := hde.mp c_173; omega)
                          replace hl8 : lv_has ls8 11 [(8, .int (b2i (k + 1 < np))), (10, .int (lost (shS S 1 dk (gcN S)))), (9, .int 1), (7, .int (nI dk)), (6, .int (spL S sn x2 x3 (k + 1))), (5, .int (spB S sn x2 x3 (k + 1))), (0, .ref (mm 0)), (1, .int (nI sn)), (2, .int x2), (3, .int x3), (4, .int x4)] := (congrArg (fun z9 => lv_has ls8 11 [(8, .int z9), (10, .int (lost (shS S 1 dk (gcN S)))), (9, .int 1), (7, .int (nI dk)), (6, .int (spL S sn x2 x3 (k + 1))), (5, .int (spB S sn x2 x3 (k + 1))), (0, .ref (mm 0)), (1, .int (nI sn)), (2, .int x2), (3, .int x3), (4, .int x4)]) hq9).mpr hl8
                          clear hq9
                          refine lv_iload hx hb dX7_stop_183 (lv_at hl8 3 rfl) ?_
                          refine lv_iload_n hx hb dX7_stop_185 rfl (lv_at hl8 7 rfl) ?_
                          refine lv_isub hx hb dX7_stop_186 ?_
                          refine lv_iload_n hx hb dX7_stop_187 rfl (lv_at hl8 7 rfl) ?_
                          refine lv_iand hx hb dX7_stop_188 ?_
                          refine lv_istore (lv' := [(7, .int (((nI dk) - (nI sn)) &&& (nI sn))), (8, .int (b2i (k + 1 < np))), (10, .int (lost (shS S 1 dk (gcN S)))), (9, .int 1), (6, .int (spL S sn x2 x3 (k + 1))), (5, .int (spB S sn x2 x3 (k + 1))), (0, .ref (mm 0)), (1, .int (nI sn)), (2, .int x2), (3, .int x3), (4, .int x4)]) hx hb dX7_stop_189 hl8 (by decide) rfl (fun ls9 hl9 => ?_)
                          clear hl8 ls8
                          refine lv_goto (tgt := 64) hx hb dX7_stop_191 (by decide) ?_
                          exact ih_64 (k + 1, ((nI dk) - (nI sn)) &&& (nI sn), PR (shS S 1 dk (gcN S)), N1_87, nI (RC (shS S 1 dk (gcN S))), b2i (RC (shS S 1 dk (gcN S)) = 60)) (⟨(by dsimp only; omega), hq9⟩) (by (try dsimp only); omega) H12 locs12 ls9 hP12 hD12 hS12 (lv_sub hl9 [1, 0, 4, 5, 6, 7, 8, 9, 10] rfl)
                        · refine lv_iconst (v := 1) hx hb dX7_stop_176 (by decide) ?_
                          refine lv_goto (tgt := 181) hx hb dX7_stop_177 (by decide) ?_
                          refine lv_istore (lv' := [(8, .int 1), (10, .int (lost (shS S 1 dk (gcN S)))), (9, .int 1), (7, .int (nI dk)), (6, .int (spL S sn x2 x3 (k + 1))), (5, .int (spB S sn x2 x3 (k + 1))), (0, .ref (mm 0)), (1, .int (nI sn)), (2, .int x2), (3, .int x3), (4, .int x4)]) hx hb dX7_stop_181 hl7 (by decide) rfl (fun ls8 hl8 => ?_)
                          clear hl7 ls7
                          have hq9 : b2i (k + 1 < np) = 1 := b2i_t (by have h9 := mt hde.mpr c_173; omega)
                          replace hl8 : lv_has ls8 11 [(8, .int (b2i (k + 1 < np))), (10, .int (lost (shS S 1 dk (gcN S)))), (9, .int 1), (7, .int (nI dk)), (6, .int (spL S sn x2 x3 (k + 1))), (5, .int (spB S sn x2 x3 (k + 1))), (0, .ref (mm 0)), (1, .int (nI sn)), (2, .int x2), (3, .int x3), (4, .int x4)] := (congrArg (fun z9 => lv_has ls8 11 [(8, .int z9), (10, .int (lost (shS S 1 dk (gcN S)))), (9, .int 1), (7, .int (nI dk)), (6, .int (spL S sn x2 x3 (k + 1))), (5, .int (spB S sn x2 x3 (k + 1))), (0, .ref (mm 0)), (1, .int (nI sn)), (2, .int x2), (3, .int x3), (4, .int x4)]) hq9).mpr hl8
                          clear hq9
                          refine lv_iload hx hb dX7_stop_183 (lv_at hl8 3 rfl) ?_
                          refine lv_iload_n hx hb dX7_stop_185 rfl (lv_at hl8 7 rfl) ?_
                          refine lv_isub hx hb dX7_stop_186 ?_
                          refine lv_iload_n hx hb dX7_stop_187 rfl (lv_at hl8 7 rfl) ?_
                          refine lv_iand hx hb dX7_stop_188 ?_
                          refine lv_istore (lv' := [(7, .int (((nI dk) - (nI sn)) &&& (nI sn))), (8, .int (b2i (k + 1 < np))), (10, .int (lost (shS S 1 dk (gcN S)))), (9, .int 1), (6, .int (spL S sn x2 x3 (k + 1))), (5, .int (spB S sn x2 x3 (k + 1))), (0, .ref (mm 0)), (1, .int (nI sn)), (2, .int x2), (3, .int x3), (4, .int x4)]) hx hb dX7_stop_189 hl8 (by decide) rfl (fun ls9 hl9 => ?_)
                          clear hl8 ls8
                          refine lv_goto (tgt := 64) hx hb dX7_stop_191 (by decide) ?_
                          exact ih_64 (k + 1, ((nI dk) - (nI sn)) &&& (nI sn), PR (shS S 1 dk (gcN S)), N1_87, nI (RC (shS S 1 dk (gcN S))), b2i (RC (shS S 1 dk (gcN S)) = 60)) (⟨(by dsimp only; omega), hq9⟩) (by (try dsimp only); omega) H12 locs12 ls9 hP12 hD12 hS12 (lv_sub hl9 [1, 0, 4, 5, 6, 7, 8, 9, 10] rfl)
                      · refine lv_iload hx hb dX7_stop_149 (lv_at hl7 3 rfl) ?_
                        refine rT_i (wc := []) (rest := []) hx hb hml hown hw hG hK hP12 hS12 hA hl7 kc_X7_ones kw_5_145 [.int (nI dk)] (c_X7_ones l D cy G H12.size dk (by omega)) [] rfl rfl rfl (Nat.le_of_ble_eq_true rfl) ⟨Nat.le_of_ble_eq_true rfl, Nat.le_of_ble_eq_true rfl⟩ dX7_stop_151 ⟨Nat.le_of_ble_eq_true rfl, Nat.le_of_ble_eq_true rfl⟩ (fun r_151 H13 locs13 hr_151 hP13 hS13 => ?_)
                        have hD13 := hD12
                        clear hP12 hD12 hS12 locs12 H12
                        subst hr_151
                        refine lv_iload hx hb dX7_stop_154 (lv_at hl7 5 rfl) ?_
                        refine tp (show (spB S sn x2 x3 k) = nI (bstN (spB S sn x2 x3 k)) from (hsb c_132).1) ?_
                        refine rT_i (wc := []) (rest := [.int (nI (pop dk))]) hx hb hml hown hw hG hK hP13 hS13 hA hl7 kc_X7_ones kw_5_145 [.int (nI (bstN (spB S sn x2 x3 k)))] (c_X7_ones l D cy G H13.size (bstN (spB S sn x2 x3 k)) (by have := (hsb c_132).2; omega)) [] rfl rfl rfl (Nat.le_of_ble_eq_true rfl) ⟨Nat.le_of_ble_eq_true rfl, Nat.le_of_ble_eq_true rfl⟩ dX7_stop_156 ⟨Nat.le_of_ble_eq_true rfl, Nat.le_of_ble_eq_true rfl⟩ (fun r_156 H14 locs14 hr_156 hP14 hS14 => ?_)
                        have hD14 := hD13
                        clear hP13 hD13 hS13 locs13 H13
                        subst hr_156
                        refine ln_ge (tgt := 170) (pop dk) (pop (bstN (spB S sn x2 x3 k))) rfl rfl (by omega) (by omega) hx hb dX7_stop_159 (by decide) (fun c_159 => ?_) (fun c_159 => ?_)
                        · have hq9 : spB S sn x2 x3 (k + 1) = spB S sn x2 x3 k := (hsp.1).trans (if_neg (fun z9 => z9.2.elim c_132 (fun q9 => q9.elim c_139 (fun r9 => absurd r9.2 (by omega)))))
                          replace hl7 : lv_has ls7 11 [(10, .int (lost (shS S 1 dk (gcN S)))), (9, .int 1), (8, .int (b2i (k < np))), (7, .int (nI dk)), (6, .int (spL S sn x2 x3 k)), (5, .int (spB S sn x2 x3 (k + 1))), (0, .ref (mm 0)), (1, .int (nI sn)), (2, .int x2), (3, .int x3), (4, .int x4)] := (congrArg (fun z9 => lv_has ls7 11 [(10, .int (lost (shS S 1 dk (gcN S)))), (9, .int 1), (8, .int (b2i (k < np))), (7, .int (nI dk)), (6, .int (spL S sn x2 x3 k)), (5, .int z9), (0, .ref (mm 0)), (1, .int (nI sn)), (2, .int x2), (3, .int x3), (4, .int x4)]) hq9).mpr hl7
                          clear hq9
                          have hq9 : spL S sn x2 x3 (k + 1) = spL S sn x2 x3 k := (hsp.2).trans (if_neg (fun z9 => z9.2.elim c_132 (fun q9 => q9.elim c_139 (fun r9 => absurd r9.2 (by omega)))))
                          replace hl7 : lv_has ls7 11 [(10, .int (lost (shS S 1 dk (gcN S)))), (9, .int 1), (8, .int (b2i (k < np))), (7, .int (nI dk)), (6, .int (spL S sn x2 x3 (k + 1))), (5, .int (spB S sn x2 x3 (k + 1))), (0, .ref (mm 0)), (1, .int (nI sn)), (2, .int x2), (3, .int x3), (4, .int x4)] := (congrArg (fun z9 => lv_has ls7 11 [(10, .int (lost (shS S 1 dk (gcN S)))), (9, .int 1), (8, .int (b2i (k < np))), (7, .int (nI dk)), (6, .int z9), (5, .int (spB S sn x2 x3 (k + 1))), (0, .ref (mm 0)), (1, .int (nI sn)), (2, .int x2), (3, .int x3), (4, .int x4)]) hq9).mpr hl7
                          clear hq9
                          refine lv_iload hx hb dX7_stop_170 (lv_at hl7 3 rfl) ?_
                          refine lv_iload_n hx hb dX7_stop_172 rfl (lv_at hl7 7 rfl) ?_
                          refine ln_eq (tgt := 180) dk sn rfl rfl (by omega) (by omega) hx hb dX7_stop_173 (by decide) (fun c_173 => ?_) (fun c_173 => ?_)
                          · refine lv_iconst (v := 0) hx hb dX7_stop_180 (by decide) ?_
                            refine lv_istore (lv' := [(8, .int 0), (10, .int (lost (shS S 1 dk (gcN S)))), (9, .int 1), (7, .int (nI dk)), (6, .int (spL S sn x2 x3 (k + 1))), (5, .int (spB S sn x2 x3 (k + 1))), (0, .ref (mm 0)), (1, .int (nI sn)), (2, .int x2), (3, .int x3), (4, .int x4)]) hx hb dX7_stop_181 hl7 (by decide) rfl (fun ls8 hl8 => ?_)
                            clear hl7 ls7
                            have hq9 : b2i (k + 1 < np) = 0 := b2i_f (fun z9 => by have h9 := hde.mp c_173; omega)
                            replace hl8 : lv_has ls8 11 [(8, .int (b2i (k + 1 < np))), (10, .int (lost (shS S 1 dk (gcN S)))), (9, .int 1), (7, .int (nI dk)), (6, .int (spL S sn x2 x3 (k + 1))), (5, .int (spB S sn x2 x3 (k + 1))), (0, .ref (mm 0)), (1, .int (nI sn)), (2, .int x2), (3, .int x3), (4, .int x4)] := (congrArg (fun z9 => lv_has ls8 11 [(8, .int z9), (10, .int (lost (shS S 1 dk (gcN S)))), (9, .int 1), (7, .int (nI dk)), (6, .int (spL S sn x2 x3 (k + 1))), (5, .int (spB S sn x2 x3 (k + 1))), (0, .ref (mm 0)), (1, .int (nI sn)), (2, .int x2), (3, .int x3), (4, .int x4)]) hq9).mpr hl8
                            clear hq9
                            refine lv_iload hx hb dX7_stop_183 (lv_at hl8 3 rfl) ?_
                            refine lv_iload_n hx hb dX7_stop_185 rfl (lv_at hl8 7 rfl) ?_
                            refine lv_isub hx hb dX7_stop_186 ?_
                            refine lv_iload_n hx hb dX7_stop_187 rfl (lv_at hl8 7 rfl) ?_
                            refine lv_iand hx hb dX7_stop_188 ?_
                            refine lv_istore (lv' := [(7, .int (((nI dk) - (nI sn)) &&& (nI sn))), (8, .int (b2i (k + 1 < np))), (10, .int (lost (shS S 1 dk (gcN S)))), (9, .int 1), (6, .int (spL S sn x2 x3 (k + 1))), (5, .int (spB S sn x2 x3 (k + 1))), (0, .ref (mm 0)), (1, .int (nI sn)), (2, .int x2), (3, .int x3), (4, .int x4)]) hx hb dX7_stop_189 hl8 (by decide) rfl (fun ls9 hl9 => ?_)
                            clear hl8 ls8
                            refine lv_goto (tgt := 64) hx hb dX7_stop_191 (by decide) ?_
                            exact ih_64 (k + 1, ((nI dk) - (nI sn)) &&& (nI sn), PR (shS S 1 dk (gcN S)), N1_87, nI (RC (shS S 1 dk (gcN S))), b2i (RC (shS S 1 dk (gcN S)) = 60)) (⟨(by dsimp only; omega), hq9⟩) (by (try dsimp only); omega) H14 locs14 ls9 hP14 hD14 hS14 (lv_sub hl9 [1, 0, 4, 5, 6, 7, 8, 9, 10] rfl)
                          · refine lv_iconst (v := 1) hx hb dX7_stop_176 (by decide) ?_
                            refine lv_goto (tgt := 181) hx hb dX7_stop_177 (by decide) ?_
                            refine lv_istore (lv' := [(8, .int 1), (10, .int (lost (shS S 1 dk (gcN S)))), (9, .int 1), (7, .int (nI dk)), (6, .int (spL S sn x2 x3 (k + 1))), (5, .int (spB S sn x2 x3 (k + 1))), (0, .ref (mm 0)), (1, .int (nI sn)), (2, .int x2), (3, .int x3), (4, .int x4)]) hx hb dX7_stop_181 hl7 (by decide) rfl (fun ls8 hl8 => ?_)
                            clear hl7 ls7
                            have hq9 : b2i (k + 1 < np) = 1 := b2i_t (by have h9 := mt hde.mpr c_173; omega)
                            replace hl8 : lv_has ls8 11 [(8, .int (b2i (k + 1 < np))), (10, .int (lost (shS S 1 dk (gcN S)))), (9, .int 1), (7, .int (nI dk)), (6, .int (spL S sn x2 x3 (k + 1))), (5, .int (spB S sn x2 x3 (k + 1))), (0, .ref (mm 0)), (1, .int (nI sn)), (2, .int x2), (3, .int x3), (4, .int x4)] := (congrArg (fun z9 => lv_has ls8 11 [(8, .int z9), (10, .int (lost (shS S 1 dk (gcN S)))), (9, .int 1), (7, .int (nI dk)), (6, .int (spL S sn x2 x3 (k + 1))), (5, .int (spB S sn x2 x3 (k + 1))), (0, .ref (mm 0)), (1, .int (nI sn)), (2, .int x2), (3, .int x3), (4, .int x4)]) hq9).mpr hl8
                            clear hq9
                            refine lv_iload hx hb dX7_stop_183 (lv_at hl8 3 rfl) ?_
                            refine lv_iload_n hx hb dX7_stop_185 rfl (lv_at hl8 7 rfl) ?_
                            refine lv_isub hx hb dX7_stop_186 ?_
                            refine lv_iload_n hx hb dX7_stop_187 rfl (lv_at hl8 7 rfl) ?_
                            refine lv_iand hx hb dX7_stop_188 ?_
                            refine lv_istore (lv' := [(7, .int (((nI dk) - (nI sn)) &&& (nI sn))), (8, .int (b2i (k + 1 < np))), (10, .int (lost (shS S 1 dk (gcN S)))), (9, .int 1), (6, .int (spL S sn x2 x3 (k + 1))), (5, .int (spB S sn x2 x3 (k + 1))), (0, .ref (mm 0)), (1, .int (nI sn)), (2, .int x2), (3, .int x3), (4, .int x4)]) hx hb dX7_stop_189 hl8 (by decide) rfl (fun ls9 hl9 => ?_)
                            clear hl8 ls8
                            refine lv_goto (tgt := 64) hx hb dX7_stop_191 (by decide) ?_
                            exact ih_64 (k + 1, ((nI dk) - (nI sn)) &&& (nI sn), PR (shS S 1 dk (gcN S)), N1_87, nI (RC (shS S 1 dk (gcN S))), b2i (RC (shS S 1 dk (gcN S)) = 60)) (⟨(by dsimp only; omega), hq9⟩) (by (try dsimp only); omega) H14 locs14 ls9 hP14 hD14 hS14 (lv_sub hl9 [1, 0, 4, 5, 6, 7, 8, 9, 10] rfl)
                        · refine lv_iload hx hb dX7_stop_162 (lv_at hl7 3 rfl) ?_
                          refine lv_istore (lv' := [(5, .int (nI dk)), (10, .int (lost (shS S 1 dk (gcN S)))), (9, .int 1), (8, .int (b2i (k < np))), (7, .int (nI dk)), (6, .int (spL S sn x2 x3 k)), (0, .ref (mm 0)), (1, .int (nI sn)), (2, .int x2), (3, .int x3), (4, .int x4)]) hx hb dX7_stop_164 hl7 (by decide) rfl (fun ls8 hl8 => ?_)
                          clear hl7 ls7
                          refine lv_iload hx hb dX7_stop_166 (lv_at hl8 1 rfl) ?_
                          refine lv_istore (lv' := [(6, .int (lost (shS S 1 dk (gcN S)))), (5, .int (nI dk)), (10, .int (lost (shS S 1 dk (gcN S)))), (9, .int 1), (8, .int (b2i (k < np))), (7, .int (nI dk)), (0, .ref (mm 0)), (1, .int (nI sn)), (2, .int x2), (3, .int x3), (4, .int x4)]) hx hb dX7_stop_168 hl8 (by decide) rfl (fun ls9 hl9 => ?_)
                          clear hl8 ls8
                          have hq9 : spB S sn x2 x3 (k + 1) = nI dk := (hsp.1).trans (if_pos ⟨⟨Int32.not_lt.mp c_76, Int32.not_lt.mp c_95, Bool.eq_false_iff.mpr c_102⟩, Or.inr (Or.inr ⟨c_146, c_159⟩)⟩)
                          replace hl9 : lv_has ls9 11 [(6, .int (lost (shS S 1 dk (gcN S)))), (5, .int (spB S sn x2 x3 (k + 1))), (10, .int (lost (shS S 1 dk (gcN S)))), (9, .int 1), (8, .int (b2i (k < np))), (7, .int (nI dk)), (0, .ref (mm 0)), (1, .int (nI sn)), (2, .int x2), (3, .int x3), (4, .int x4)] := (congrArg (fun z9 => lv_has ls9 11 [(6, .int (lost (shS S 1 dk (gcN S)))), (5, .int z9), (10, .int (lost (shS S 1 dk (gcN S)))), (9, .int 1), (8, .int (b2i (k < np))), (7, .int (nI dk)), (0, .ref (mm 0)), (1, .int (nI sn)), (2, .int x2), (3, .int x3), (4, .int x4)]) hq9).mpr hl9
                          clear hq9
                          have hq9 : spL S sn x2 x3 (k + 1) = lost (shS S 1 dk (gcN S)) := (hsp.2).trans (if_pos ⟨⟨Int32.not_lt.mp c_76, Int32.not_lt.mp c_95, Bool.eq_false_iff.mpr c_102⟩, Or.inr (Or.inr ⟨c_146, c_159⟩)⟩)
                          replace hl9 : lv_has ls9 11 [(6, .int (spL S sn x2 x3 (k + 1))), (5, .int (spB S sn x2 x3 (k + 1))), (10, .int (lost (shS S 1 dk (gcN S)))), (9, .int 1), (8, .int (b2i (k < np))), (7, .int (nI dk)), (0, .ref (mm 0)), (1, .int (nI sn)), (2, .int x2), (3, .int x3), (4, .int x4)] := (congrArg (fun z9 => lv_has ls9 11 [(6, .int z9), (5, .int (spB S sn x2 x3 (k + 1))), (10, .int (lost (shS S 1 dk (gcN S)))), (9, .int 1), (8, .int (b2i (k < np))), (7, .int (nI dk)), (0, .ref (mm 0)), (1, .int (nI sn)), (2, .int x2), (3, .int x3), (4, .int x4)]) hq9).mpr hl9
                          clear hq9
                          refine lv_iload hx hb dX7_stop_170 (lv_at hl9 5 rfl) ?_
                          refine lv_iload_n hx hb dX7_stop_172 rfl (lv_at hl9 7 rfl) ?_
                          refine ln_eq (tgt := 180) dk sn rfl rfl (by omega) (by omega) hx hb dX7_stop_173 (by decide) (fun c_173 => ?_) (fun c_173 => ?_)
                          · refine lv_iconst (v := 0) hx hb dX7_stop_180 (by decide) ?_
                            refine lv_istore (lv' := [(8, .int 0), (6, .int (spL S sn x2 x3 (k + 1))), (5, .int (spB S sn x2 x3 (k + 1))), (10, .int (lost (shS S 1 dk (gcN S)))), (9, .int 1), (7, .int (nI dk)), (0, .ref (mm 0)), (1, .int (nI sn)), (2, .int x2), (3, .int x3), (4, .int x4)]) hx hb dX7_stop_181 hl9 (by decide) rfl (fun ls10 hl10 => ?_)
                            clear hl9 ls9
                            have hq9 : b2i (k + 1 < np) = 0 := b2i_f (fun z9 => by have h9 := hde.mp c_173; omega)
                            replace hl10 : lv_has ls10 11 [(8, .int (b2i (k + 1 < np))), (6, .int (spL S sn x2 x3 (k + 1))), (5, .int (spB S sn x2 x3 (k + 1))), (10, .int (lost (shS S 1 dk (gcN S)))), (9, .int 1), (7, .int (nI dk)), (0, .ref (mm 0)), (1, .int (nI sn)), (2, .int x2), (3, .int x3), (4, .int x4)] := (congrArg (fun z9 => lv_has ls10 11 [(8, .int z9), (6, .int (spL S sn x2 x3 (k + 1))), (5, .int (spB S sn x2 x3 (k + 1))), (10, .int (lost (shS S 1 dk (gcN S)))), (9, .int 1), (7, .int (nI dk)), (0, .ref (mm 0)), (1, .int (nI sn)), (2, .int x2), (3, .int x3), (4, .int x4)]) hq9).mpr hl10
                            clear hq9
                            refine lv_iload hx hb dX7_stop_183 (lv_at hl10 5 rfl) ?_
                            refine lv_iload_n hx hb dX7_stop_185 rfl (lv_at hl10 7 rfl) ?_
                            refine lv_isub hx hb dX7_stop_186 ?_
                            refine lv_iload_n hx hb dX7_stop_187 rfl (lv_at hl10 7 rfl) ?_
                            refine lv_iand hx hb dX7_stop_188 ?_
                            refine lv_istore (lv' := [(7, .int (((nI dk) - (nI sn)) &&& (nI sn))), (8, .int (b2i (k + 1 < np))), (6, .int (spL S sn x2 x3 (k + 1))), (5, .int (spB S sn x2 x3 (k + 1))), (10, .int (lost (shS S 1 dk (gcN S)))), (9, .int 1), (0, .ref (mm 0)), (1, .int (nI sn)), (2, .int x2), (3, .int x3), (4, .int x4)]) hx hb dX7_stop_189 hl10 (by decide) rfl (fun ls11 hl11 => ?_)
                            clear hl10 ls10
                            refine lv_goto (tgt := 64) hx hb dX7_stop_191 (by decide) ?_
                            exact ih_64 (k + 1, ((nI dk) - (nI sn)) &&& (nI sn), PR (shS S 1 dk (gcN S)), N1_87, nI (RC (shS S 1 dk (gcN S))), b2i (RC (shS S 1 dk (gcN S)) = 60)) (⟨(by dsimp only; omega), hq9⟩) (by (try dsimp only); omega) H14 locs14 ls11 hP14 hD14 hS14 (lv_sub hl11 [1, 0, 2, 3, 6, 7, 8, 9, 10] rfl)
                          · refine lv_iconst (v := 1) hx hb dX7_stop_176 (by decide) ?_
                            refine lv_goto (tgt := 181) hx hb dX7_stop_177 (by decide) ?_
                            refine lv_istore (lv' := [(8, .int 1), (6, .int (spL S sn x2 x3 (k + 1))), (5, .int (spB S sn x2 x3 (k + 1))), (10, .int (lost (shS S 1 dk (gcN S)))), (9, .int 1), (7, .int (nI dk)), (0, .ref (mm 0)), (1, .int (nI sn)), (2, .int x2), (3, .int x3), (4, .int x4)]) hx hb dX7_stop_181 hl9 (by decide) rfl (fun ls10 hl10 => ?_)
                            clear hl9 ls9
                            have hq9 : b2i (k + 1 < np) = 1 := b2i_t (by have h9 := mt hde.mpr c_173; omega)
                            replace hl10 : lv_has ls10 11 [(8, .int (b2i (k + 1 < np))), (6, .int (spL S sn x2 x3 (k + 1))), (5, .int (spB S sn x2 x3 (k + 1))), (10, .int (lost (shS S 1 dk (gcN S)))), (9, .int 1), (7, .int (nI dk)), (0, .ref (mm 0)), (1, .int (nI sn)), (2, .int x2), (3, .int x3), (4, .int x4)] := (congrArg (fun z9 => lv_has ls10 11 [(8, .int z9), (6, .int (spL S sn x2 x3 (k + 1))), (5, .int (spB S sn x2 x3 (k + 1))), (10, .int (lost (shS S 1 dk (gcN S)))), (9, .int 1), (7, .int (nI dk)), (0, .ref (mm 0)), (1, .int (nI sn)), (2, .int x2), (3, .int x3), (4, .int x4)]) hq9).mpr hl10
                            clear hq9
                            refine lv_iload hx hb dX7_stop_183 (lv_at hl10 5 rfl) ?_
                            refine lv_iload_n hx hb dX7_stop_185 rfl (lv_at hl10 7 rfl) ?_
                            refine lv_isub hx hb dX7_stop_186 ?_
                            refine lv_iload_n hx hb dX7_stop_187 rfl (lv_at hl10 7 rfl) ?_
                            refine lv_iand hx hb dX7_stop_188 ?_
                            refine lv_istore (lv' := [(7, .int (((nI dk) - (nI sn)) &&& (nI sn))), (8, .int (b2i (k + 1 < np))), (6, .int (spL S sn x2 x3 (k + 1))), (5, .int (spB S sn x2 x3 (k + 1))), (10, .int (lost (shS S 1 dk (gcN S)))), (9, .int 1), (0, .ref (mm 0)), (1, .int (nI sn)), (2, .int x2), (3, .int x3), (4, .int x4)]) hx hb dX7_stop_189 hl10 (by decide) rfl (fun ls11 hl11 => ?_)
                            clear hl10 ls10
                            refine lv_goto (tgt := 64) hx hb dX7_stop_191 (by decide) ?_
                            exact ih_64 (k + 1, ((nI dk) - (nI sn)) &&& (nI sn), PR (shS S 1 dk (gcN S)), N1_87, nI (RC (shS S 1 dk (gcN S))), b2i (RC (shS S 1 dk (gcN S)) = 60)) (⟨(by dsimp only; omega), hq9⟩) (by (try dsimp only); omega) H14 locs14 ls11 hP14 hD14 hS14 (lv_sub hl11 [1, 0, 2, 3, 6, 7, 8, 9, 10] rfl)
        · refine lv_aload_n hx hb dX7_stop_45 rfl (lv_at hl0 0 rfl) ?_
          refine lv_ldc (v := (-1000000001)) hx hb hown (hw _ kw_4_143) dX7_stop_46 ?_
          refine cV_i (wc := [mO cy mm ik tl fm tz vl iw rm rr om, ia cy (mm 4) 7 C]) (wr := [ia cy (mm 1) 169 S, ia cy (mm 6) 6 P, ia cy (mm 7) 6 N]) (rest := []) hx hb hml hown hw hG hK hP4 hD4 hS4 hA hl0 kc_X7_finds kw_4_139 [.int (-1000000001)] (c_X7_finds l D cy G H4.size mm ik tl fm tz vl iw rm rr om C 0 (-1000000001) (by decide) (by decide)) [0, 2] [1, 3, 4] rfl rfl rfl rfl rfl 0 rfl rfl rfl rfl rfl (Nat.le_of_ble_eq_true rfl) ⟨Nat.le_of_ble_eq_true rfl, Nat.le_of_ble_eq_true rfl⟩ dX7_stop_48 ⟨Nat.le_of_ble_eq_true rfl, Nat.le_of_ble_eq_true rfl⟩ (fun r_48 u9 H5 locs5 hu9 hP5 hD5 hS5 => ?_)
          clear hP4 hD4 hS4 locs4 H4
          have hr_48 := hu9
          replace hP5 : va_P D vwCl ([ia cy (mm 1) 169 S, ia cy (mm 6) 6 P, ia cy (mm 7) 6 N, mO cy mm ik tl fm tz vl iw rm rr om, ia cy (mm 4) 7 (upd C 0 (C 0 + 1))]) H5 := hP5
          replace hD5 : va_D (va_A _ sz) ([ia cy (mm 1) 169 S, ia cy (mm 6) 6 P, ia cy (mm 7) 6 N, mO cy mm ik tl fm tz vl iw rm rr om, ia cy (mm 4) 7 (upd C 0 (C 0 + 1))]) := hD5
          replace hP5 := hP5.sub (ws' := [mO cy mm ik tl fm tz vl iw rm rr om, ia cy (mm 1) 169 S, ia cy (mm 4) 7 (upd C 0 (C 0 + 1)), ia cy (mm 6) 6 P, ia cy (mm 7) 6 N]) [3, 0, 4, 1, 2] rfl
          replace hD5 := hD5.sub (ws' := [mO cy mm ik tl fm tz vl iw rm rr om, ia cy (mm 1) 169 S, ia cy (mm 4) 7 (upd C 0 (C 0 + 1)), ia cy (mm 6) 6 P, ia cy (mm 7) 6 N]) [3, 0, 4, 1, 2] (by decide) rfl
          subst hr_48
          have hcd : cStop S (nI sn) x2 x3 x4 = 0 := by unfold cStop; rw [hux]; clear hx hb hml hown hr hlocks hw hsz hA hG hK hP5 hD5 hS5 hl0; grind
          have hq9 : ([mO cy mm ik tl fm tz vl iw rm rr om, ia cy (mm 1) 169 S, ia cy (mm 4) 7 (upd C 0 (C 0 + 1)), ia cy (mm 6) 6 P, ia cy (mm 7) 6 N]) = ([mO cy mm ik tl fm tz vl iw rm rr om, ia cy (mm 1) 169 S, ia cy (mm 4) 7 (fnd C (cStop S (nI sn) x2 x3 x4)), ia cy (mm 6) 6 P, ia cy (mm 7) 6 N]) := congrArg (fun z9 => [mO cy mm ik tl fm tz vl iw rm rr om, ia cy (mm 1) 169 S, ia cy (mm 4) 7 z9, ia cy (mm 6) 6 P, ia cy (mm 7) 6 N]) (show (upd C 0 (C 0 + 1)) = (fnd C (cStop S (nI sn) x2 x3 x4)) from fnd_f hcd (by decide))
          replace hP5 := (congrArg (fun z9 => va_P D vwCl z9 _) hq9).mp hP5
          replace hD5 := (congrArg (fun z9 => va_D _ z9) hq9).mp hD5
          clear hq9
          refine re_i (P, N, rm, rr) hx hb hr hlocks hP5 hD5 hS5 dX7_stop_51 ?_
          exact (ans_f hcd (by decide) rfl)

theorem kc_X7_order : kV yX7_order cX7_order 2 (some .int) 1 := ⟨kw_5_159, kw_5_160, kw_1_8, kw_5_161, by decide, by decide, by decide +kernel⟩
set_option maxHeartbeats 4000000 in
set_option maxRecDepth 100000 in
theorem c_X7_order (l : Launch) (D : va_G) (cy : Nat → ClassId) (G : Nat → Nat) (sz : Nat) (mm : Nat → Nat) (ik : Int32) (tl : Int32) (fm : Int32) (tz : Int32) (vl : Int32) (iw : Int32) (rm : Int32) (rr : Int32) (om : Int32) (S : Nat → Int32) (C : Nat → Int32) (P : Nat → Int32) (N : Nat → Int32) (O : Nat → Int32) (od : Nat → Int32) (sv : Nat → Int32) (x1 : Int32) (wf : wf S) : Met l yX7_order (wm yX7_order cX7_order 2 (some .int)) { frames := 7, cells := 0, slots := 0, locals := 160 } (va_Pc [.ref (mm 0), .int x1] (pr D (TY cy) G ([mO cy mm ik tl fm tz vl iw rm rr om, ia cy (mm 1) 169 S, ia cy (mm 4) 7 C, ia cy (mm 3) 169 O, ia cy (mm 6) 6 P, ia cy (mm 7) 6 N, ia cy (mm 8) 20 od, ia cy (mm 9) 21 sv]) sz)) (va_Qi (fun (r : Int32) (u : (Nat → Int32) × (Nat → Int32) × Int32 × Int32 × Int32 × (Nat → Int32) × (Nat → Int32) × (Nat → Int32)) => r = ans (cOrder S x1) (stp S (bstN x1))) (fun (u : (Nat → Int32) × (Nat → Int32) × Int32 × Int32 × Int32 × (Nat → Int32) × (Nat → Int32) × (Nat → Int32)) t => po D (va_A ([mO cy mm ik tl fm tz vl iw rm rr om, ia cy (mm 1) 169 S, ia cy (mm 4) 7 C, ia cy (mm 3) 169 O, ia cy (mm 6) 6 P, ia cy (mm 7) 6 N, ia cy (mm 8) 20 od, ia cy (mm 9) 21 sv]) sz) ([mO cy mm ik tl fm tz vl iw u.2.2.1 u.2.2.2.1 u.2.2.2.2.1, ia cy (mm 1) 169 S, ia cy (mm 4) 7 (fnd C (cOrder S x1)), ia cy (mm 3) 169 u.2.2.2.2.2.1, ia cy (mm 6) 6 u.1, ia cy (mm 7) 6 u.2.1, ia cy (mm 8) 20 u.2.2.2.2.2.2.1, ia cy (mm 9) 21 u.2.2.2.2.2.2.2]) t) (va_A ([mO cy mm ik tl fm tz vl iw rm rr om, ia cy (mm 1) 169 S, ia cy (mm 4) 7 C, ia cy (mm 3) 169 O, ia cy (mm 6) 6 P, ia cy (mm 7) 6 N, ia cy (mm 8) 20 od, ia cy (mm 9) 21 sv]) sz)) 0 0 (va_A ([mO cy mm ik tl fm tz vl iw rm rr om, ia cy (mm 1) 169 S, ia cy (mm 4) 7 C, ia cy (mm 3) 169 O, ia cy (mm 6) 6 P, ia cy (mm 7) 6 N, ia cy (mm 8) 20 od, ia cy (mm 9) 21 sv]) sz) := by
  refine mk_rw (by decide) RX7 rfl (Nat.le_of_ble_eq_true rfl) [(0, .ref (mm 0)), (1, .int x1)] rfl ?_
  intro p e s m below meth c hx hb hml hown hr hlocks hin hw hsz hA hG hK H0 locs0 hP0 hD0 hS0 ls0 hl0
  clear hin
  have hg20 := wf_g20 wf
  have hr6 := wf_r6 wf
  refine lv_iload_n hx hb dX7_order_0 rfl (lv_at hl0 1 rfl) ?_
  refine lv_i2l hx hb dX7_order_1 rfl ?_
  refine lv_lconst (v := 0) hx hb dX7_order_2 (by decide) ?_
  refine lv_ldc2 (v := 19) hx hb hown (hw _ kw_5_162) dX7_order_3 ?_
  refine rT_i (wc := []) (rest := []) hx hb hml hown hw hG hK hP0 hS0 hA hl0 kc_X7_in kw_4_153 [.long x1.toInt64, .long 0, .long 19] (c_X7_in l D cy G H0.size x1.toInt64 0 19) [] rfl rfl rfl (Nat.le_of_ble_eq_true rfl) ⟨Nat.le_of_ble_eq_true rfl, Nat.le_of_ble_eq_true rfl⟩ dX7_order_6 ⟨Nat.le_of_ble_eq_true rfl, Nat.le_of_ble_eq_true rfl⟩ (fun r_6 H1 locs1 hr_6 hP1 hS1 => ?_)
  have hD1 := hD0
  clear hP0 hD0 hS0 locs0 H0
  subst hr_6
  refine tp (show (b2i (0 ≤ x1.toInt64 ∧ x1.toInt64 ≤ 19)) = b2i (0 ≤ x1 ∧ x1 ≤ 19) from b2i_iff (in_c (by decide) (by decide))) ?_
  refine lb_ne (tgt := 19) hx hb dX7_order_9 (by decide) (fun c_9 => ?_) (fun c_9 => ?_)
  · obtain ⟨k, hk, rfl⟩ := nI_rn (n := 20) (by decide) (x := x1) ⟨c_9.1, Int32.lt_of_le_of_lt c_9.2 (by decide)⟩
    have hbk : bstN (nI k) = k := bst_n (by omega)
    have hok := ordK_le S
    refine lv_aload_n hx hb dX7_order_19 rfl (lv_at hl0 0 rfl) ?_
    refine cV_v (wc := [mO cy mm ik tl fm tz vl iw rm rr om, ia cy (mm 1) 169 S, ia cy (mm 3) 169 O, ia cy (mm 6) 6 P, ia cy (mm 7) 6 N, ia cy (mm 8) 20 od, ia cy (mm 9) 21 sv]) (wr := [ia cy (mm 4) 7 C]) (rest := []) hx hb hml hown hw hG hK hP1 hD1 hS1 hA hl0 kc_X7_findOrder kw_5_163 [] (c_X7_findOrder l D cy G H1.size mm ik tl fm tz vl iw rm rr om S P N O od sv (by first | omega | assumption)) [0, 1, 3, 4, 5, 6, 7] [2] rfl rfl rfl rfl rfl 0 rfl rfl rfl rfl rfl (Nat.le_of_ble_eq_true rfl) ⟨Nat.le_of_ble_eq_true rfl, Nat.le_of_ble_eq_true rfl⟩ dX7_order_20 ⟨Nat.le_of_ble_eq_true rfl, Nat.le_of_ble_eq_true rfl⟩ (fun u9 H2 locs2 hu9 hP2 hD2 hS2 => ?_)
    clear hP1 hD1 hS1 locs1 H1
    obtain ⟨P1_20, N1_20, rm1_20, rr1_20, od1_20, sv1_20⟩ := u9
    obtain ⟨hsg_20, hlb_20⟩ := hu9
    replace hsg_20 : ∀ j, j < ordK S → od1_20 j = stp S j := hsg_20
    replace hlb_20 : ∀ j, j ≤ ordK S → sv1_20 j = hadS S j := hlb_20
    replace hP2 : va_P D vwCl ([ia cy (mm 4) 7 C, mO cy mm ik tl fm tz vl iw rm1_20 rr1_20 (nI (ordK S)), ia cy (mm 1) 169 S, ia cy (mm 3) 169 S, ia cy (mm 6) 6 P1_20, ia cy (mm 7) 6 N1_20, ia cy (mm 8) 20 od1_20, ia cy (mm 9) 21 sv1_20]) H2 := hP2
    replace hD2 : va_D (va_A _ sz) ([ia cy (mm 4) 7 C, mO cy mm ik tl fm tz vl iw rm1_20 rr1_20 (nI (ordK S)), ia cy (mm 1) 169 S, ia cy (mm 3) 169 S, ia cy (mm 6) 6 P1_20, ia cy (mm 7) 6 N1_20, ia cy (mm 8) 20 od1_20, ia cy (mm 9) 21 sv1_20]) := hD2
    replace hP2 := hP2.sub (ws' := [mO cy mm ik tl fm tz vl iw rm1_20 rr1_20 (nI (ordK S)), ia cy (mm 1) 169 S, ia cy (mm 4) 7 C, ia cy (mm 3) 169 S, ia cy (mm 6) 6 P1_20, ia cy (mm 7) 6 N1_20, ia cy (mm 8) 20 od1_20, ia cy (mm 9) 21 sv1_20]) [1, 2, 0, 3, 4, 5, 6, 7] rfl
    replace hD2 := hD2.sub (ws' := [mO cy mm ik tl fm tz vl iw rm1_20 rr1_20 (nI (ordK S)), ia cy (mm 1) 169 S, ia cy (mm 4) 7 C, ia cy (mm 3) 169 S, ia cy (mm 6) 6 P1_20, ia cy (mm 7) 6 N1_20, ia cy (mm 8) 20 od1_20, ia cy (mm 9) 21 sv1_20]) [1, 2, 0, 3, 4, 5, 6, 7] (by decide) rfl
    refine lv_iload_n hx hb dX7_order_23 rfl (lv_at hl0 1 rfl) ?_
    refine lv_aload_n hx hb dX7_order_24 rfl (lv_at hl0 0 rfl) ?_
    refine va_get (D := D) (ci := 7) (v := .int (nI (ordK S))) (C := RX7) (T := TX7) (N := 23) hx hb hw iX7 hown hK hP2 0 rfl rfl 17 (by decide) (hw _ kw_4_81) (fun _ h9 => h9) rfl dX7_order_25 ?_
    refine ln_ge (tgt := 40) k (ordK S) rfl rfl (by omega) (by omega) hx hb dX7_order_28 (by decide) (fun c_28 => ?_) (fun c_28 => ?_)
    · refine lv_aload_n hx hb dX7_order_40 rfl (lv_at hl0 0 rfl) ?_
      refine lv_ldc (v := (-1000000004)) hx hb hown (hw _ kw_5_132) dX7_order_41 ?_
      refine cV_i (wc := [mO cy mm ik tl fm tz vl iw rm1_20 rr1_20 (nI (ordK S)), ia cy (mm 4) 7 C]) (wr := [ia cy (mm 1) 169 S, ia cy (mm 3) 169 S, ia cy (mm 6) 6 P1_20, ia cy (mm 7) 6 N1_20, ia cy (mm 8) 20 od1_20, ia cy (mm 9) 21 sv1_20]) (rest := []) hx hb hml hown hw hG hK hP2 hD2 hS2 hA hl0 kc_X7_finds kw_4_139 [.int (-1000000004)] (c_X7_finds l D cy G H2.size mm ik tl fm tz vl iw rm1_20 rr1_20 (nI (ordK S)) C 3 (-1000000004) (by decide) (by decide)) [0, 2] [1, 3, 4, 5, 6, 7] rfl rfl rfl rfl rfl 0 rfl rfl rfl rfl rfl (Nat.le_of_ble_eq_true rfl) ⟨Nat.le_of_ble_eq_true rfl, Nat.le_of_ble_eq_true rfl⟩ dX7_order_43 ⟨Nat.le_of_ble_eq_true rfl, Nat.le_of_ble_eq_true rfl⟩ (fun r_43 u9 H3 locs3 hu9 hP3 hD3 hS3 => ?_)
      clear hP2 hD2 hS2 locs2 H2
      have hr_43 := hu9
      replace hP3 : va_P D vwCl ([ia cy (mm 1) 169 S, ia cy (mm 3) 169 S, ia cy (mm 6) 6 P1_20, ia cy (mm 7) 6 N1_20, ia cy (mm 8) 20 od1_20, ia cy (mm 9) 21 sv1_20, mO cy mm ik tl fm tz vl iw rm1_20 rr1_20 (nI (ordK S)), ia cy (mm 4) 7 (upd C 3 (C 3 + 1))]) H3 := hP3
      replace hD3 : va_D (va_A _ sz) ([ia cy (mm 1) 169 S, ia cy (mm 3) 169 S, ia cy (mm 6) 6 P1_20, ia cy (mm 7) 6 N1_20, ia cy (mm 8) 20 od1_20, ia cy (mm 9) 21 sv1_20, mO cy mm ik tl fm tz vl iw rm1_20 rr1_20 (nI (ordK S)), ia cy (mm 4) 7 (upd C 3 (C 3 + 1))]) := hD3
      replace hP3 := hP3.sub (ws' := [mO cy mm ik tl fm tz vl iw rm1_20 rr1_20 (nI (ordK S)), ia cy (mm 1) 169 S, ia cy (mm 4) 7 (upd C 3 (C 3 + 1)), ia cy (mm 3) 169 S, ia cy (mm 6) 6 P1_20, ia cy (mm 7) 6 N1_20, ia cy (mm 8) 20 od1_20, ia cy (mm 9) 21 sv1_20]) [6, 0, 7, 1, 2, 3, 4, 5] rfl
      replace hD3 := hD3.sub (ws' := [mO cy mm ik tl fm tz vl iw rm1_20 rr1_20 (nI (ordK S)), ia cy (mm 1) 169 S, ia cy (mm 4) 7 (upd C 3 (C 3 + 1)), ia cy (mm 3) 169 S, ia cy (mm 6) 6 P1_20, ia cy (mm 7) 6 N1_20, ia cy (mm 8) 20 od1_20, ia cy (mm 9) 21 sv1_20]) [6, 0, 7, 1, 2, 3, 4, 5] (by decide) rfl
      subst hr_43
      have hcd : cOrder S (nI k) = 3 := by unfold cOrder; rw [hbk]; clear hx hb hml hown hr hlocks hw hsz hA hG hK hP3 hD3 hS3 hl0; grind
      have hq9 : ([mO cy mm ik tl fm tz vl iw rm1_20 rr1_20 (nI (ordK S)), ia cy (mm 1) 169 S, ia cy (mm 4) 7 (upd C 3 (C 3 + 1)), ia cy (mm 3) 169 S, ia cy (mm 6) 6 P1_20, ia cy (mm 7) 6 N1_20, ia cy (mm 8) 20 od1_20, ia cy (mm 9) 21 sv1_20]) = ([mO cy mm ik tl fm tz vl iw rm1_20 rr1_20 (nI (ordK S)), ia cy (mm 1) 169 S, ia cy (mm 4) 7 (fnd C (cOrder S (nI k))), ia cy (mm 3) 169 S, ia cy (mm 6) 6 P1_20, ia cy (mm 7) 6 N1_20, ia cy (mm 8) 20 od1_20, ia cy (mm 9) 21 sv1_20]) := congrArg (fun z9 => [mO cy mm ik tl fm tz vl iw rm1_20 rr1_20 (nI (ordK S)), ia cy (mm 1) 169 S, ia cy (mm 4) 7 z9, ia cy (mm 3) 169 S, ia cy (mm 6) 6 P1_20, ia cy (mm 7) 6 N1_20, ia cy (mm 8) 20 od1_20, ia cy (mm 9) 21 sv1_20]) (show (upd C 3 (C 3 + 1)) = (fnd C (cOrder S (nI k))) from fnd_f hcd (by decide))
      replace hP3 := (congrArg (fun z9 => va_P D vwCl z9 _) hq9).mp hP3
      replace hD3 := (congrArg (fun z9 => va_D _ z9) hq9).mp hD3
      clear hq9
      refine re_i (P1_20, N1_20, rm1_20, rr1_20, nI (ordK S), S, od1_20, sv1_20) hx hb hr hlocks hP3 hD3 hS3 dX7_order_46 ?_
      exact (ans_f hcd (by decide) rfl)
    · refine lv_aload_n hx hb dX7_order_31 rfl (lv_at hl0 0 rfl) ?_
      refine va_get (D := D) (ci := 7) (v := .ref (mm 8)) (C := RX7) (T := TX7) (N := 23) hx hb hw iX7 hown hK hP2 0 rfl rfl 15 (by decide) (hw _ kw_4_79) (fun _ h9 => h9) rfl dX7_order_32 ?_
      refine lv_iload_n hx hb dX7_order_35 rfl (lv_at hl0 1 rfl) ?_
      refine ald_i (f := od1_20) hx hb hK hP2 6 0 rfl rfl k rfl (by first | omega | assumption) (by decide) dX7_order_36 ?_
      refine tp (show (od1_20 k) = stp S k from hsg_20 k (by omega)) ?_
      refine lv_goto (tgt := 46) hx hb dX7_order_37 (by decide) ?_
      have hcd : cOrder S (nI k) = 7 := by unfold cOrder; rw [hbk]; clear hx hb hml hown hr hlocks hw hsz hA hG hK hP2 hD2 hS2 hl0; grind
      have hq9 : ([mO cy mm ik tl fm tz vl iw rm1_20 rr1_20 (nI (ordK S)), ia cy (mm 1) 169 S, ia cy (mm 4) 7 C, ia cy (mm 3) 169 S, ia cy (mm 6) 6 P1_20, ia cy (mm 7) 6 N1_20, ia cy (mm 8) 20 od1_20, ia cy (mm 9) 21 sv1_20]) = ([mO cy mm ik tl fm tz vl iw rm1_20 rr1_20 (nI (ordK S)), ia cy (mm 1) 169 S, ia cy (mm 4) 7 (fnd C (cOrder S (nI k))), ia cy (mm 3) 169 S, ia cy (mm 6) 6 P1_20, ia cy (mm 7) 6 N1_20, ia cy (mm 8) 20 od1_20, ia cy (mm 9) 21 sv1_20]) := congrArg (fun z9 => [mO cy mm ik tl fm tz vl iw rm1_20 rr1_20 (nI (ordK S)), ia cy (mm 1) 169 S, ia cy (mm 4) 7 z9, ia cy (mm 3) 169 S, ia cy (mm 6) 6 P1_20, ia cy (mm 7) 6 N1_20, ia cy (mm 8) 20 od1_20, ia cy (mm 9) 21 sv1_20]) (show C = (fnd C (cOrder S (nI k))) from fnd_o hcd)
      replace hP2 := (congrArg (fun z9 => va_P D vwCl z9 _) hq9).mp hP2
      replace hD2 := (congrArg (fun z9 => va_D _ z9) hq9).mp hD2
      clear hq9
      refine re_i (P1_20, N1_20, rm1_20, rr1_20, nI (ordK S), S, od1_20, sv1_20) hx hb hr hlocks hP2 hD2 hS2 dX7_order_46 ?_
      exact (ans_o hcd (by rw [hbk]))
  · refine lv_aload_n hx hb dX7_order_12 rfl (lv_at hl0 0 rfl) ?_
    refine lv_ldc (v := (-1000000001)) hx hb hown (hw _ kw_4_143) dX7_order_13 ?_
    refine cV_i (wc := [mO cy mm ik tl fm tz vl iw rm rr om, ia cy (mm 4) 7 C]) (wr := [ia cy (mm 1) 169 S, ia cy (mm 3) 169 O, ia cy (mm 6) 6 P, ia cy (mm 7) 6 N, ia cy (mm 8) 20 od, ia cy (mm 9) 21 sv]) (rest := []) hx hb hml hown hw hG hK hP1 hD1 hS1 hA hl0 kc_X7_finds kw_4_139 [.int (-1000000001)] (c_X7_finds l D cy G H1.size mm ik tl fm tz vl iw rm rr om C 0 (-1000000001) (by decide) (by decide)) [0, 2] [1, 3, 4, 5, 6, 7] rfl rfl rfl rfl rfl 0 rfl rfl rfl rfl rfl (Nat.le_of_ble_eq_true rfl) ⟨Nat.le_of_ble_eq_true rfl, Nat.le_of_ble_eq_true rfl⟩ dX7_order_15 ⟨Nat.le_of_ble_eq_true rfl, Nat.le_of_ble_eq_true rfl⟩ (fun r_15 u9 H2 locs2 hu9 hP2 hD2 hS2 => ?_)
    clear hP1 hD1 hS1 locs1 H1
    have hr_15 := hu9
    replace hP2 : va_P D vwCl ([ia cy (mm 1) 169 S, ia cy (mm 3) 169 O, ia cy (mm 6) 6 P, ia cy (mm 7) 6 N, ia cy (mm 8) 20 od, ia cy (mm 9) 21 sv, mO cy mm ik tl fm tz vl iw rm rr om, ia cy (mm 4) 7 (upd C 0 (C 0 + 1))]) H2 := hP2
    replace hD2 : va_D (va_A _ sz) ([ia cy (mm 1) 169 S, ia cy (mm 3) 169 O, ia cy (mm 6) 6 P, ia cy (mm 7) 6 N, ia cy (mm 8) 20 od, ia cy (mm 9) 21 sv, mO cy mm ik tl fm tz vl iw rm rr om, ia cy (mm 4) 7 (upd C 0 (C 0 + 1))]) := hD2
    replace hP2 := hP2.sub (ws' := [mO cy mm ik tl fm tz vl iw rm rr om, ia cy (mm 1) 169 S, ia cy (mm 4) 7 (upd C 0 (C 0 + 1)), ia cy (mm 3) 169 O, ia cy (mm 6) 6 P, ia cy (mm 7) 6 N, ia cy (mm 8) 20 od, ia cy (mm 9) 21 sv]) [6, 0, 7, 1, 2, 3, 4, 5] rfl
    replace hD2 := hD2.sub (ws' := [mO cy mm ik tl fm tz vl iw rm rr om, ia cy (mm 1) 169 S, ia cy (mm 4) 7 (upd C 0 (C 0 + 1)), ia cy (mm 3) 169 O, ia cy (mm 6) 6 P, ia cy (mm 7) 6 N, ia cy (mm 8) 20 od, ia cy (mm 9) 21 sv]) [6, 0, 7, 1, 2, 3, 4, 5] (by decide) rfl
    subst hr_15
    have hcd : cOrder S x1 = 0 := by unfold cOrder; clear hx hb hml hown hr hlocks hw hsz hA hG hK hP2 hD2 hS2 hl0; grind
    have hq9 : ([mO cy mm ik tl fm tz vl iw rm rr om, ia cy (mm 1) 169 S, ia cy (mm 4) 7 (upd C 0 (C 0 + 1)), ia cy (mm 3) 169 O, ia cy (mm 6) 6 P, ia cy (mm 7) 6 N, ia cy (mm 8) 20 od, ia cy (mm 9) 21 sv]) = ([mO cy mm ik tl fm tz vl iw rm rr om, ia cy (mm 1) 169 S, ia cy (mm 4) 7 (fnd C (cOrder S x1)), ia cy (mm 3) 169 O, ia cy (mm 6) 6 P, ia cy (mm 7) 6 N, ia cy (mm 8) 20 od, ia cy (mm 9) 21 sv]) := congrArg (fun z9 => [mO cy mm ik tl fm tz vl iw rm rr om, ia cy (mm 1) 169 S, ia cy (mm 4) 7 z9, ia cy (mm 3) 169 O, ia cy (mm 6) 6 P, ia cy (mm 7) 6 N, ia cy (mm 8) 20 od, ia cy (mm 9) 21 sv]) (show (upd C 0 (C 0 + 1)) = (fnd C (cOrder S x1)) from fnd_f hcd (by decide))
    replace hP2 := (congrArg (fun z9 => va_P D vwCl z9 _) hq9).mp hP2
    replace hD2 := (congrArg (fun z9 => va_D _ z9) hq9).mp hD2
    clear hq9
    refine re_i (P, N, rm, rr, om, O, od, sv) hx hb hr hlocks hP2 hD2 hS2 dX7_order_18 ?_
    exact (ans_f hcd (by decide) rfl)

theorem kc_X7_saved : kV yX7_saved cX7_saved 2 (some .int) 1 := ⟨kw_5_172, kw_5_173, kw_1_8, kw_5_174, by decide, by decide, by decide +kernel⟩
set_option maxHeartbeats 4000000 in
set_option maxRecDepth 100000 in
theorem c_X7_saved (l : Launch) (D : va_G) (cy : Nat → ClassId) (G : Nat → Nat) (sz : Nat) (mm : Nat → Nat) (ik : Int32) (tl : Int32) (fm : Int32) (tz : Int32) (vl : Int32) (iw : Int32) (rm : Int32) (rr : Int32) (om : Int32) (S : Nat → Int32) (C : Nat → Int32) (P : Nat → Int32) (N : Nat → Int32) (O : Nat → Int32) (od : Nat → Int32) (sv : Nat → Int32) (x1 : Int32) (wf : wf S) : Met l yX7_saved (wm yX7_saved cX7_saved 2 (some .int)) { frames := 7, cells := 0, slots := 0, locals := 160 } (va_Pc [.ref (mm 0), .int x1] (pr D (TY cy) G ([mO cy mm ik tl fm tz vl iw rm rr om, ia cy (mm 1) 169 S, ia cy (mm 4) 7 C, ia cy (mm 3) 169 O, ia cy (mm 6) 6 P, ia cy (mm 7) 6 N, ia cy (mm 8) 20 od, ia cy (mm 9) 21 sv]) sz)) (va_Qi (fun (r : Int32) (u : (Nat → Int32) × (Nat → Int32) × Int32 × Int32 × Int32 × (Nat → Int32) × (Nat → Int32) × (Nat → Int32)) => r = ans (cSaved x1) (vSaved S (bstN x1))) (fun (u : (Nat → Int32) × (Nat → Int32) × Int32 × Int32 × Int32 × (Nat → Int32) × (Nat → Int32) × (Nat → Int32)) t => po D (va_A ([mO cy mm ik tl fm tz vl iw rm rr om, ia cy (mm 1) 169 S, ia cy (mm 4) 7 C, ia cy (mm 3) 169 O, ia cy (mm 6) 6 P, ia cy (mm 7) 6 N, ia cy (mm 8) 20 od, ia cy (mm 9) 21 sv]) sz) ([mO cy mm ik tl fm tz vl iw u.2.2.1 u.2.2.2.1 u.2.2.2.2.1, ia cy (mm 1) 169 S, ia cy (mm 4) 7 (fnd C (cSaved x1)), ia cy (mm 3) 169 u.2.2.2.2.2.1, ia cy (mm 6) 6 u.1, ia cy (mm 7) 6 u.2.1, ia cy (mm 8) 20 u.2.2.2.2.2.2.1, ia cy (mm 9) 21 u.2.2.2.2.2.2.2]) t) (va_A ([mO cy mm ik tl fm tz vl iw rm rr om, ia cy (mm 1) 169 S, ia cy (mm 4) 7 C, ia cy (mm 3) 169 O, ia cy (mm 6) 6 P, ia cy (mm 7) 6 N, ia cy (mm 8) 20 od, ia cy (mm 9) 21 sv]) sz)) 0 0 (va_A ([mO cy mm ik tl fm tz vl iw rm rr om, ia cy (mm 1) 169 S, ia cy (mm 4) 7 C, ia cy (mm 3) 169 O, ia cy (mm 6) 6 P, ia cy (mm 7) 6 N, ia cy (mm 8) 20 od, ia cy (mm 9) 21 sv]) sz) := by
  refine mk_rw (by decide) RX7 rfl (Nat.le_of_ble_eq_true rfl) [(0, .ref (mm 0)), (1, .int x1)] rfl ?_
  intro p e s m below meth c hx hb hml hown hr hlocks hin hw hsz hA hG hK H0 locs0 hP0 hD0 hS0 ls0 hl0
  clear hin
  have hg20 := wf_g20 wf
  have hr6 := wf_r6 wf
  refine lv_iload_n hx hb dX7_saved_0 rfl (lv_at hl0 1 rfl) ?_
  refine lv_i2l hx hb dX7_saved_1 rfl ?_
  refine lv_lconst (v := 0) hx hb dX7_saved_2 (by decide) ?_
  refine lv_ldc2 (v := 20) hx hb hown (hw _ kw_5_175) dX7_saved_3 ?_
  refine rT_i (wc := []) (rest := []) hx hb hml hown hw hG hK hP0 hS0 hA hl0 kc_X7_in kw_4_153 [.long x1.toInt64, .long 0, .long 20] (c_X7_in l D cy G H0.size x1.toInt64 0 20) [] rfl rfl rfl (Nat.le_of_ble_eq_true rfl) ⟨Nat.le_of_ble_eq_true rfl, Nat.le_of_ble_eq_true rfl⟩ dX7_saved_6 ⟨Nat.le_of_ble_eq_true rfl, Nat.le_of_ble_eq_true rfl⟩ (fun r_6 H1 locs1 hr_6 hP1 hS1 => ?_)
  have hD1 := hD0
  clear hP0 hD0 hS0 locs0 H0
  subst hr_6
  refine tp (show (b2i (0 ≤ x1.toInt64 ∧ x1.toInt64 ≤ 20)) = b2i (0 ≤ x1 ∧ x1 ≤ 20) from b2i_iff (in_c (by decide) (by decide))) ?_
  refine lb_ne (tgt := 19) hx hb dX7_saved_9 (by decide) (fun c_9 => ?_) (fun c_9 => ?_)
  · obtain ⟨k, hk, rfl⟩ := nI_rn (n := 21) (by decide) (x := x1) ⟨c_9.1, Int32.lt_of_le_of_lt c_9.2 (by decide)⟩
    have hbk : bstN (nI k) = k := bst_n (by omega)
    have hok := ordK_le S
    refine lv_aload_n hx hb dX7_saved_19 rfl (lv_at hl0 0 rfl) ?_
    refine cV_v (wc := [mO cy mm ik tl fm tz vl iw rm rr om, ia cy (mm 1) 169 S, ia cy (mm 3) 169 O, ia cy (mm 6) 6 P, ia cy (mm 7) 6 N, ia cy (mm 8) 20 od, ia cy (mm 9) 21 sv]) (wr := [ia cy (mm 4) 7 C]) (rest := []) hx hb hml hown hw hG hK hP1 hD1 hS1 hA hl0 kc_X7_findOrder kw_5_163 [] (c_X7_findOrder l D cy G H1.size mm ik tl fm tz vl iw rm rr om S P N O od sv (by first | omega | assumption)) [0, 1, 3, 4, 5, 6, 7] [2] rfl rfl rfl rfl rfl 0 rfl rfl rfl rfl rfl (Nat.le_of_ble_eq_true rfl) ⟨Nat.le_of_ble_eq_true rfl, Nat.le_of_ble_eq_true rfl⟩ dX7_saved_20 ⟨Nat.le_of_ble_eq_true rfl, Nat.le_of_ble_eq_true rfl⟩ (fun u9 H2 locs2 hu9 hP2 hD2 hS2 => ?_)
    clear hP1 hD1 hS1 locs1 H1
    obtain ⟨P1_20, N1_20, rm1_20, rr1_20, od1_20, sv1_20⟩ := u9
    obtain ⟨hsg_20, hlb_20⟩ := hu9
    replace hsg_20 : ∀ j, j < ordK S → od1_20 j = stp S j := hsg_20
    replace hlb_20 : ∀ j, j ≤ ordK S → sv1_20 j = hadS S j := hlb_20
    replace hP2 : va_P D vwCl ([ia cy (mm 4) 7 C, mO cy mm ik tl fm tz vl iw rm1_20 rr1_20 (nI (ordK S)), ia cy (mm 1) 169 S, ia cy (mm 3) 169 S, ia cy (mm 6) 6 P1_20, ia cy (mm 7) 6 N1_20, ia cy (mm 8) 20 od1_20, ia cy (mm 9) 21 sv1_20]) H2 := hP2
    replace hD2 : va_D (va_A _ sz) ([ia cy (mm 4) 7 C, mO cy mm ik tl fm tz vl iw rm1_20 rr1_20 (nI (ordK S)), ia cy (mm 1) 169 S, ia cy (mm 3) 169 S, ia cy (mm 6) 6 P1_20, ia cy (mm 7) 6 N1_20, ia cy (mm 8) 20 od1_20, ia cy (mm 9) 21 sv1_20]) := hD2
    replace hP2 := hP2.sub (ws' := [mO cy mm ik tl fm tz vl iw rm1_20 rr1_20 (nI (ordK S)), ia cy (mm 1) 169 S, ia cy (mm 4) 7 C, ia cy (mm 3) 169 S, ia cy (mm 6) 6 P1_20, ia cy (mm 7) 6 N1_20, ia cy (mm 8) 20 od1_20, ia cy (mm 9) 21 sv1_20]) [1, 2, 0, 3, 4, 5, 6, 7] rfl
    replace hD2 := hD2.sub (ws' := [mO cy mm ik tl fm tz vl iw rm1_20 rr1_20 (nI (ordK S)), ia cy (mm 1) 169 S, ia cy (mm 4) 7 C, ia cy (mm 3) 169 S, ia cy (mm 6) 6 P1_20, ia cy (mm 7) 6 N1_20, ia cy (mm 8) 20 od1_20, ia cy (mm 9) 21 sv1_20]) [1, 2, 0, 3, 4, 5, 6, 7] (by decide) rfl
    refine lv_aload_n hx hb dX7_saved_23 rfl (lv_at hl0 0 rfl) ?_
    refine va_get (D := D) (ci := 7) (v := .ref (mm 9)) (C := RX7) (T := TX7) (N := 23) hx hb hw iX7 hown hK hP2 0 rfl rfl 16 (by decide) (hw _ kw_4_80) (fun _ h9 => h9) rfl dX7_saved_24 ?_
    refine lv_iload_n hx hb dX7_saved_27 rfl (lv_at hl0 1 rfl) ?_
    refine lv_aload_n hx hb dX7_saved_28 rfl (lv_at hl0 0 rfl) ?_
    refine va_get (D := D) (ci := 7) (v := .int (nI (ordK S))) (C := RX7) (T := TX7) (N := 23) hx hb hw iX7 hown hK hP2 0 rfl rfl 17 (by decide) (hw _ kw_4_81) (fun _ h9 => h9) rfl dX7_saved_29 ?_
    refine ln_ge (tgt := 39) k (ordK S) rfl rfl (by omega) (by omega) hx hb dX7_saved_32 (by decide) (fun c_32 => ?_) (fun c_32 => ?_)
    · refine lv_aload_n hx hb dX7_saved_39 rfl (lv_at hl0 0 rfl) ?_
      refine va_get (D := D) (ci := 7) (v := .int (nI (ordK S))) (C := RX7) (T := TX7) (N := 23) hx hb hw iX7 hown hK hP2 0 rfl rfl 17 (by decide) (hw _ kw_4_81) (fun _ h9 => h9) rfl dX7_saved_40 ?_
      refine ald_i (f := sv1_20) hx hb hK hP2 7 0 rfl rfl (ordK S) rfl (by first | omega | assumption) (by decide) dX7_saved_43 ?_
      refine tp (show (sv1_20 (ordK S)) = hadS S (ordK S) from hlb_20 _ (Nat.le_refl _)) ?_
      have hcd : cSaved (nI k) = 7 := by unfold cSaved; clear hx hb hml hown hr hlocks hw hsz hA hG hK hP2 hD2 hS2 hl0; grind
      have hq9 : ([mO cy mm ik tl fm tz vl iw rm1_20 rr1_20 (nI (ordK S)), ia cy (mm 1) 169 S, ia cy (mm 4) 7 C, ia cy (mm 3) 169 S, ia cy (mm 6) 6 P1_20, ia cy (mm 7) 6 N1_20, ia cy (mm 8) 20 od1_20, ia cy (mm 9) 21 sv1_20]) = ([mO cy mm ik tl fm tz vl iw rm1_20 rr1_20 (nI (ordK S)), ia cy (mm 1) 169 S, ia cy (mm 4) 7 (fnd C (cSaved (nI k))), ia cy (mm 3) 169 S, ia cy (mm 6) 6 P1_20, ia cy (mm 7) 6 N1_20, ia cy (mm 8) 20 od1_20, ia cy (mm 9) 21 sv1_20]) := congrArg (fun z9 => [mO cy mm ik tl fm tz vl iw rm1_20 rr1_20 (nI (ordK S)), ia cy (mm 1) 169 S, ia cy (mm 4) 7 z9, ia cy (mm 3) 169 S, ia cy (mm 6) 6 P1_20, ia cy (mm 7) 6 N1_20, ia cy (mm 8) 20 od1_20, ia cy (mm 9) 21 sv1_20]) (show C = (fnd C (cSaved (nI k))) from fnd_o hcd)
      replace hP2 := (congrArg (fun z9 => va_P D vwCl z9 _) hq9).mp hP2
      replace hD2 := (congrArg (fun z9 => va_D _ z9) hq9).mp hD2
      clear hq9
      refine re_i (P1_20, N1_20, rm1_20, rr1_20, nI (ordK S), S, od1_20, sv1_20) hx hb hr hlocks hP2 hD2 hS2 dX7_saved_44 ?_
      exact (ans_o hcd (by rw [hbk]; unfold vSaved; rw [minN_ge c_32]))
    · refine lv_iload_n hx hb dX7_saved_35 rfl (lv_at hl0 1 rfl) ?_
      refine lv_goto (tgt := 43) hx hb dX7_saved_36 (by decide) ?_
      refine ald_i (f := sv1_20) hx hb hK hP2 7 0 rfl rfl k rfl (by first | omega | assumption) (by decide) dX7_saved_43 ?_
      refine tp (show (sv1_20 k) = hadS S k from hlb_20 k (by omega)) ?_
      have hcd : cSaved (nI k) = 7 := by unfold cSaved; clear hx hb hml hown hr hlocks hw hsz hA hG hK hP2 hD2 hS2 hl0; grind
      have hq9 : ([mO cy mm ik tl fm tz vl iw rm1_20 rr1_20 (nI (ordK S)), ia cy (mm 1) 169 S, ia cy (mm 4) 7 C, ia cy (mm 3) 169 S, ia cy (mm 6) 6 P1_20, ia cy (mm 7) 6 N1_20, ia cy (mm 8) 20 od1_20, ia cy (mm 9) 21 sv1_20]) = ([mO cy mm ik tl fm tz vl iw rm1_20 rr1_20 (nI (ordK S)), ia cy (mm 1) 169 S, ia cy (mm 4) 7 (fnd C (cSaved (nI k))), ia cy (mm 3) 169 S, ia cy (mm 6) 6 P1_20, ia cy (mm 7) 6 N1_20, ia cy (mm 8) 20 od1_20, ia cy (mm 9) 21 sv1_20]) := congrArg (fun z9 => [mO cy mm ik tl fm tz vl iw rm1_20 rr1_20 (nI (ordK S)), ia cy (mm 1) 169 S, ia cy (mm 4) 7 z9, ia cy (mm 3) 169 S, ia cy (mm 6) 6 P1_20, ia cy (mm 7) 6 N1_20, ia cy (mm 8) 20 od1_20, ia cy (mm 9) 21 sv1_20]) (show C = (fnd C (cSaved (nI k))) from fnd_o hcd)
      replace hP2 := (congrArg (fun z9 => va_P D vwCl z9 _) hq9).mp hP2
      replace hD2 := (congrArg (fun z9 => va_D _ z9) hq9).mp hD2
      clear hq9
      refine re_i (P1_20, N1_20, rm1_20, rr1_20, nI (ordK S), S, od1_20, sv1_20) hx hb hr hlocks hP2 hD2 hS2 dX7_saved_44 ?_
      exact (ans_o hcd (by rw [hbk]; unfold vSaved; rw [minN_lt c_32]))
  · refine lv_aload_n hx hb dX7_saved_12 rfl (lv_at hl0 0 rfl) ?_
    refine lv_ldc (v := (-1000000001)) hx hb hown (hw _ kw_4_143) dX7_saved_13 ?_
    refine cV_i (wc := [mO cy mm ik tl fm tz vl iw rm rr om, ia cy (mm 4) 7 C]) (wr := [ia cy (mm 1) 169 S, ia cy (mm 3) 169 O, ia cy (mm 6) 6 P, ia cy (mm 7) 6 N, ia cy (mm 8) 20 od, ia cy (mm 9) 21 sv]) (rest := []) hx hb hml hown hw hG hK hP1 hD1 hS1 hA hl0 kc_X7_finds kw_4_139 [.int (-1000000001)] (c_X7_finds l D cy G H1.size mm ik tl fm tz vl iw rm rr om C 0 (-1000000001) (by decide) (by decide)) [0, 2] [1, 3, 4, 5, 6, 7] rfl rfl rfl rfl rfl 0 rfl rfl rfl rfl rfl (Nat.le_of_ble_eq_true rfl) ⟨Nat.le_of_ble_eq_true rfl, Nat.le_of_ble_eq_true rfl⟩ dX7_saved_15 ⟨Nat.le_of_ble_eq_true rfl, Nat.le_of_ble_eq_true rfl⟩ (fun r_15 u9 H2 locs2 hu9 hP2 hD2 hS2 => ?_)
    clear hP1 hD1 hS1 locs1 H1
    have hr_15 := hu9
    replace hP2 : va_P D vwCl ([ia cy (mm 1) 169 S, ia cy (mm 3) 169 O, ia cy (mm 6) 6 P, ia cy (mm 7) 6 N, ia cy (mm 8) 20 od, ia cy (mm 9) 21 sv, mO cy mm ik tl fm tz vl iw rm rr om, ia cy (mm 4) 7 (upd C 0 (C 0 + 1))]) H2 := hP2
    replace hD2 : va_D (va_A _ sz) ([ia cy (mm 1) 169 S, ia cy (mm 3) 169 O, ia cy (mm 6) 6 P, ia cy (mm 7) 6 N, ia cy (mm 8) 20 od, ia cy (mm 9) 21 sv, mO cy mm ik tl fm tz vl iw rm rr om, ia cy (mm 4) 7 (upd C 0 (C 0 + 1))]) := hD2
    replace hP2 := hP2.sub (ws' := [mO cy mm ik tl fm tz vl iw rm rr om, ia cy (mm 1) 169 S, ia cy (mm 4) 7 (upd C 0 (C 0 + 1)), ia cy (mm 3) 169 O, ia cy (mm 6) 6 P, ia cy (mm 7) 6 N, ia cy (mm 8) 20 od, ia cy (mm 9) 21 sv]) [6, 0, 7, 1, 2, 3, 4, 5] rfl
    replace hD2 := hD2.sub (ws' := [mO cy mm ik tl fm tz vl iw rm rr om, ia cy (mm 1) 169 S, ia cy (mm 4) 7 (upd C 0 (C 0 + 1)), ia cy (mm 3) 169 O, ia cy (mm 6) 6 P, ia cy (mm 7) 6 N, ia cy (mm 8) 20 od, ia cy (mm 9) 21 sv]) [6, 0, 7, 1, 2, 3, 4, 5] (by decide) rfl
    subst hr_15
    have hcd : cSaved x1 = 0 := by unfold cSaved; clear hx hb hml hown hr hlocks hw hsz hA hG hK hP2 hD2 hS2 hl0; grind
    have hq9 : ([mO cy mm ik tl fm tz vl iw rm rr om, ia cy (mm 1) 169 S, ia cy (mm 4) 7 (upd C 0 (C 0 + 1)), ia cy (mm 3) 169 O, ia cy (mm 6) 6 P, ia cy (mm 7) 6 N, ia cy (mm 8) 20 od, ia cy (mm 9) 21 sv]) = ([mO cy mm ik tl fm tz vl iw rm rr om, ia cy (mm 1) 169 S, ia cy (mm 4) 7 (fnd C (cSaved x1)), ia cy (mm 3) 169 O, ia cy (mm 6) 6 P, ia cy (mm 7) 6 N, ia cy (mm 8) 20 od, ia cy (mm 9) 21 sv]) := congrArg (fun z9 => [mO cy mm ik tl fm tz vl iw rm rr om, ia cy (mm 1) 169 S, ia cy (mm 4) 7 z9, ia cy (mm 3) 169 O, ia cy (mm 6) 6 P, ia cy (mm 7) 6 N, ia cy (mm 8) 20 od, ia cy (mm 9) 21 sv]) (show (upd C 0 (C 0 + 1)) = (fnd C (cSaved x1)) from fnd_f hcd (by decide))
    replace hP2 := (congrArg (fun z9 => va_P D vwCl z9 _) hq9).mp hP2
    replace hD2 := (congrArg (fun z9 => va_D _ z9) hq9).mp hD2
    clear hq9
    refine re_i (P, N, rm, rr, om, O, od, sv) hx hb hr hlocks hP2 hD2 hS2 dX7_saved_18 ?_
    exact (ans_f hcd (by decide) rfl)

theorem kc_X7_line : kV yX7_line cX7_line 4 (some .int) 0 := ⟨kw_5_177, kw_5_178, kw_1_8, kw_5_179, by decide, by decide, by decide +kernel⟩
set_option maxHeartbeats 4000000 in
set_option maxRecDepth 100000 in
theorem c_X7_line (l : Launch) (D : va_G) (cy : Nat → ClassId) (G : Nat → Nat) (sz : Nat) (mm : Nat → Nat) (ik : Int32) (tl : Int32) (fm : Int32) (tz : Int32) (vl : Int32) (iw : Int32) (rm : Int32) (rr : Int32) (om : Int32) (S : Nat → Int32) (C : Nat → Int32) (P : Nat → Int32) (N : Nat → Int32) (wf : wf S) : Met l yX7_line (wm yX7_line cX7_line 4 (some .int)) { frames := 5, cells := 0, slots := 0, locals := 113 } (va_Pc [.ref (mm 0)] (pr D (TY cy) G ([mO cy mm ik tl fm tz vl iw rm rr om, ia cy (mm 1) 169 S, ia cy (mm 4) 7 C, ia cy (mm 6) 6 P, ia cy (mm 7) 6 N]) sz)) (va_Qi (fun (r : Int32) (u : (Nat → Int32) × (Nat → Int32) × Int32 × Int32) => r = ans (cLine S) (lineR S)) (fun (u : (Nat → Int32) × (Nat → Int32) × Int32 × Int32) t => po D (va_A ([mO cy mm ik tl fm tz vl iw rm rr om, ia cy (mm 1) 169 S, ia cy (mm 4) 7 C, ia cy (mm 6) 6 P, ia cy (mm 7) 6 N]) sz) ([mO cy mm ik tl fm tz vl iw u.2.2.1 u.2.2.2 om, ia cy (mm 1) 169 S, ia cy (mm 4) 7 (fnd C (cLine S)), ia cy (mm 6) 6 u.1, ia cy (mm 7) 6 u.2.1]) t) (va_A ([mO cy mm ik tl fm tz vl iw rm rr om, ia cy (mm 1) 169 S, ia cy (mm 4) 7 C, ia cy (mm 6) 6 P, ia cy (mm 7) 6 N]) sz)) 0 0 (va_A ([mO cy mm ik tl fm tz vl iw rm rr om, ia cy (mm 1) 169 S, ia cy (mm 4) 7 C, ia cy (mm 6) 6 P, ia cy (mm 7) 6 N]) sz) := by
  refine mk_rw (by decide) RX7 rfl (Nat.le_of_ble_eq_true rfl) [(0, .ref (mm 0))] rfl ?_
  intro p e s m below meth c hx hb hml hown hr hlocks hin hw hsz hA hG hK H0 locs0 hP0 hD0 hS0 ls0 hl0
  clear hin
  have hg20 := wf_g20 wf
  have hr6 := wf_r6 wf
  have hln := lineR_neg S
  refine lv_aload_n hx hb dX7_line_0 rfl (lv_at hl0 0 rfl) ?_
  refine va_get (D := D) (ci := 7) (v := .ref (mm 1)) (C := RX7) (T := TX7) (N := 23) hx hb hw iX7 hown hK hP0 0 rfl rfl 0 (by decide) (hw _ kw_4_64) (fun _ h9 => h9) rfl dX7_line_1 ?_
  refine lv_iconst (v := 3) hx hb dX7_line_4 (by decide) ?_
  refine ald_i (f := S) hx hb hK hP0 1 0 rfl rfl 3 rfl (by first | omega | assumption) (by decide) dX7_line_5 ?_
  refine lv_istore_n (lv' := [(1, .int (S 3)), (0, .ref (mm 0))]) hx hb dX7_line_6 rfl hl0 (by decide) rfl (fun ls1 hl1 => ?_)
  clear hl0 ls0
  refine lv_iconst (v := (-1)) hx hb dX7_line_7 (by decide) ?_
  refine lv_istore_n (lv' := [(2, .int (-1)), (1, .int (S 3)), (0, .ref (mm 0))]) hx hb dX7_line_8 rfl hl1 (by decide) rfl (fun ls2 hl2 => ?_)
  clear hl1 ls1
  refine lv_bipush (v := 99) hx hb dX7_line_9 (by decide) ?_
  refine lv_istore_n (lv' := [(3, .int 99), (2, .int (-1)), (1, .int (S 3)), (0, .ref (mm 0))]) hx hb dX7_line_11 rfl hl2 (by decide) rfl (fun ls3 hl3 => ?_)
  clear hl2 ls2
  have hq9 : lnF S 100 = -1 := lnF_100 S
  replace hl3 : lv_has ls3 4 [(3, .int 99), (2, .int (lnF S 100)), (1, .int (S 3)), (0, .ref (mm 0))] := (congrArg (fun z9 => lv_has ls3 4 [(3, .int 99), (2, .int z9), (1, .int (S 3)), (0, .ref (mm 0))]) hq9).mpr hl3
  clear hq9
  have hq9 : nI 100 - 1 = 99 := by decide
  replace hl3 : lv_has ls3 4 [(3, .int (nI 100 - 1)), (2, .int (lnF S 100)), (1, .int (S 3)), (0, .ref (mm 0))] := (congrArg (fun z9 => lv_has ls3 4 [(3, .int z9), (2, .int (lnF S 100)), (1, .int (S 3)), (0, .ref (mm 0))]) hq9).mpr hl3
  clear hq9
  refine wlp (ι := Nat × (Nat → Int32) × (Nat → Int32) × (Nat → Int32) × Int32 × Int32) (nL := 4) (fun x9 => (x9.1 ≤ 100) ∧ (∀ v : Int32, upd x9.2.1 3 v = upd S 3 v)) (fun x9 => [mO cy mm ik tl fm tz vl iw x9.2.2.2.2.1 x9.2.2.2.2.2 om, ia cy (mm 1) 169 x9.2.1, ia cy (mm 4) 7 C, ia cy (mm 6) 6 x9.2.2.1, ia cy (mm 7) 6 x9.2.2.2.1]) (fun x9 => [(3, .int (nI x9.1 - 1)), (2, .int (lnF S x9.1)), (1, .int (S 3)), (0, .ref (mm 0))]) (fun x9 => []) (fun x9 => x9.1) 12 ?_ (100, S, P, N, rm, rr) (⟨by first | omega | assumption | rfl | simp_all, fun _ => rfl⟩) rfl hP0 hD0 hS0 (lv_sub hl3 [0, 1, 2, 3] rfl)
  clear hP0 hD0 hS0 locs0 H0 hl3 ls3
  intro x9 hI ih_12 H1 locs1 ls4 hP1 hD1 hS1 hl4
  obtain ⟨i, X1, P1, N1, rm1, rr1⟩ := x9
  obtain ⟨hi, hU⟩ := hI
  replace hi : i ≤ 100 := hi
  replace hU : ∀ v : Int32, upd X1 3 v = upd S 3 v := hU
  replace hP1 : va_P D vwCl ([mO cy mm ik tl fm tz vl iw rm1 rr1 om, ia cy (mm 1) 169 X1, ia cy (mm 4) 7 C, ia cy (mm 6) 6 P1, ia cy (mm 7) 6 N1]) H1 := hP1
  replace hD1 : va_D (va_A _ sz) ([mO cy mm ik tl fm tz vl iw rm1 rr1 om, ia cy (mm 1) 169 X1, ia cy (mm 4) 7 C, ia cy (mm 6) 6 P1, ia cy (mm 7) 6 N1]) := hD1
  replace hl4 : lv_has ls4 4 [(3, .int (nI i - 1)), (2, .int (lnF S i)), (1, .int (S 3)), (0, .ref (mm 0))] := hl4
  show W p l e _ s m _ below meth c _ _ _ _ _ (F0 m 12 ls4 [])
  refine lv_iload_n hx hb dX7_line_12 rfl (lv_at hl4 0 rfl) ?_
  refine lv_if_lt (tgt := 46) hx hb dX7_line_13 (by decide) (fun c_13 => ?_) (fun c_13 => ?_)
  · obtain rfl : i = 0 := (nI_m1_neg (by omega)).mp c_13
    have hq9 : lineR S = lnF S 0 := (lnF_0 S).symm
    replace hl4 : lv_has ls4 4 [(3, .int (nI 0 - 1)), (2, .int (lineR S)), (1, .int (S 3)), (0, .ref (mm 0))] := (congrArg (fun z9 => lv_has ls4 4 [(3, .int (nI 0 - 1)), (2, .int z9), (1, .int (S 3)), (0, .ref (mm 0))]) hq9).mpr hl4
    clear hq9
    refine lv_aload_n hx hb dX7_line_46 rfl (lv_at hl4 3 rfl) ?_
    refine va_get (D := D) (ci := 7) (v := .ref (mm 1)) (C := RX7) (T := TX7) (N := 23) hx hb hw iX7 hown hK hP1 0 rfl rfl 0 (by decide) (hw _ kw_4_64) (fun _ h9 => h9) rfl dX7_line_47 ?_
    refine lv_iconst (v := 3) hx hb dX7_line_50 (by decide) ?_
    refine lv_iload_n hx hb dX7_line_51 rfl (lv_at hl4 2 rfl) ?_
    refine ast_i (f := X1) (ws' := [mO cy mm ik tl fm tz vl iw rm1 rr1 om, ia cy (mm 1) 169 (upd X1 3 (S 3)), ia cy (mm 4) 7 C, ia cy (mm 6) 6 P1, ia cy (mm 7) 6 N1]) hx hb hK hP1 hD1 hS1 1 0 rfl rfl 3 rfl (by first | omega | assumption) (by decide) rfl dX7_line_52 (fun H2 locs2 hP2 hD2 hS2 => ?_)
    clear hP1 hD1 hS1 locs1 H1
    have hq9 : ([mO cy mm ik tl fm tz vl iw rm1 rr1 om, ia cy (mm 1) 169 (upd X1 3 (S 3)), ia cy (mm 4) 7 C, ia cy (mm 6) 6 P1, ia cy (mm 7) 6 N1]) = ([mO cy mm ik tl fm tz vl iw rm1 rr1 om, ia cy (mm 1) 169 S, ia cy (mm 4) 7 C, ia cy (mm 6) 6 P1, ia cy (mm 7) 6 N1]) := congrArg (fun z9 => [mO cy mm ik tl fm tz vl iw rm1 rr1 om, ia cy (mm 1) 169 z9, ia cy (mm 4) 7 C, ia cy (mm 6) 6 P1, ia cy (mm 7) 6 N1]) (show (upd X1 3 (S 3)) = S from (hU _).trans (upd_back S _))
    replace hP2 := (congrArg (fun z9 => va_P D vwCl z9 _) hq9).mp hP2
    replace hD2 := (congrArg (fun z9 => va_D _ z9) hq9).mp hD2
    clear hq9
    refine lv_iload_n hx hb dX7_line_53 rfl (lv_at hl4 1 rfl) ?_
    refine lv_if_ge (tgt := 66) hx hb dX7_line_54 (by decide) (fun c_54 => ?_) (fun c_54 => ?_)
    · refine lv_iload_n hx hb dX7_line_66 rfl (lv_at hl4 1 rfl) ?_
      have hcd : cLine S = 7 := by unfold cLine; clear hx hb hml hown hr hlocks hw hsz hA hG hK hP2 hD2 hS2 hl4 ih_12; grind
      have hq9 : ([mO cy mm ik tl fm tz vl iw rm1 rr1 om, ia cy (mm 1) 169 S, ia cy (mm 4) 7 C, ia cy (mm 6) 6 P1, ia cy (mm 7) 6 N1]) = ([mO cy mm ik tl fm tz vl iw rm1 rr1 om, ia cy (mm 1) 169 S, ia cy (mm 4) 7 (fnd C (cLine S)), ia cy (mm 6) 6 P1, ia cy (mm 7) 6 N1]) := congrArg (fun z9 => [mO cy mm ik tl fm tz vl iw rm1 rr1 om, ia cy (mm 1) 169 S, ia cy (mm 4) 7 z9, ia cy (mm 6) 6 P1, ia cy (mm 7) 6 N1]) (show C = (fnd C (cLine S)) from fnd_o hcd)
      replace hP2 := (congrArg (fun z9 => va_P D vwCl z9 _) hq9).mp hP2
      replace hD2 := (congrArg (fun z9 => va_D _ z9) hq9).mp hD2
      clear hq9
      refine re_i (P1, N1, rm1, rr1) hx hb hr hlocks hP2 hD2 hS2 dX7_line_67 ?_
      exact (ans_o hcd (rfl))
    · refine lv_aload_n hx hb dX7_line_57 rfl (lv_at hl4 3 rfl) ?_
      refine lv_ldc (v := (-1000000004)) hx hb hown (hw _ kw_5_132) dX7_line_58 ?_
      refine cV_i (wc := [mO cy mm ik tl fm tz vl iw rm1 rr1 om, ia cy (mm 4) 7 C]) (wr := [ia cy (mm 1) 169 S, ia cy (mm 6) 6 P1, ia cy (mm 7) 6 N1]) (rest := []) hx hb hml hown hw hG hK hP2 hD2 hS2 hA hl4 kc_X7_finds kw_4_139 [.int (-1000000004)] (c_X7_finds l D cy G H2.size mm ik tl fm tz vl iw rm1 rr1 om C 3 (-1000000004) (by decide) (by decide)) [0, 2] [1, 3, 4] rfl rfl rfl rfl rfl 0 rfl rfl rfl rfl rfl (Nat.le_of_ble_eq_true rfl) ⟨Nat.le_of_ble_eq_true rfl, Nat.le_of_ble_eq_true rfl⟩ dX7_line_60 ⟨Nat.le_of_ble_eq_true rfl, Nat.le_of_ble_eq_true rfl⟩ (fun r_60 u9 H3 locs3 hu9 hP3 hD3 hS3 => ?_)
      clear hP2 hD2 hS2 locs2 H2
      have hr_60 := hu9
      replace hP3 : va_P D vwCl ([ia cy (mm 1) 169 S, ia cy (mm 6) 6 P1, ia cy (mm 7) 6 N1, mO cy mm ik tl fm tz vl iw rm1 rr1 om, ia cy (mm 4) 7 (upd C 3 (C 3 + 1))]) H3 := hP3
      replace hD3 : va_D (va_A _ sz) ([ia cy (mm 1) 169 S, ia cy (mm 6) 6 P1, ia cy (mm 7) 6 N1, mO cy mm ik tl fm tz vl iw rm1 rr1 om, ia cy (mm 4) 7 (upd C 3 (C 3 + 1))]) := hD3
      replace hP3 := hP3.sub (ws' := [mO cy mm ik tl fm tz vl iw rm1 rr1 om, ia cy (mm 1) 169 S, ia cy (mm 4) 7 (upd C 3 (C 3 + 1)), ia cy (mm 6) 6 P1, ia cy (mm 7) 6 N1]) [3, 0, 4, 1, 2] rfl
      replace hD3 := hD3.sub (ws' := [mO cy mm ik tl fm tz vl iw rm1 rr1 om, ia cy (mm 1) 169 S, ia cy (mm 4) 7 (upd C 3 (C 3 + 1)), ia cy (mm 6) 6 P1, ia cy (mm 7) 6 N1]) [3, 0, 4, 1, 2] (by decide) rfl
      subst hr_60
      refine lv_goto (tgt := 67) hx hb dX7_line_63 (by decide) ?_
      have hcd : cLine S = 3 := by unfold cLine; clear hx hb hml hown hr hlocks hw hsz hA hG hK hP3 hD3 hS3 hl4 ih_12; grind
      have hq9 : ([mO cy mm ik tl fm tz vl iw rm1 rr1 om, ia cy (mm 1) 169 S, ia cy (mm 4) 7 (upd C 3 (C 3 + 1)), ia cy (mm 6) 6 P1, ia cy (mm 7) 6 N1]) = ([mO cy mm ik tl fm tz vl iw rm1 rr1 om, ia cy (mm 1) 169 S, ia cy (mm 4) 7 (fnd C (cLine S)), ia cy (mm 6) 6 P1, ia cy (mm 7) 6 N1]) := congrArg (fun z9 => [mO cy mm ik tl fm tz vl iw rm1 rr1 om, ia cy (mm 1) 169 S, ia cy (mm 4) 7 z9, ia cy (mm 6) 6 P1, ia cy (mm 7) 6 N1]) (show (upd C 3 (C 3 + 1)) = (fnd C (cLine S)) from fnd_f hcd (by decide))
      replace hP3 := (congrArg (fun z9 => va_P D vwCl z9 _) hq9).mp hP3
      replace hD3 := (congrArg (fun z9 => va_D _ z9) hq9).mp hD3
      clear hq9
      refine re_i (P1, N1, rm1, rr1) hx hb hr hlocks hP3 hD3 hS3 dX7_line_67 ?_
      exact (ans_f hcd (by decide) rfl)
  · obtain ⟨i9, rfl⟩ : ∃ n9, i = n9 + 1 := ⟨i - 1, by have := mt (nI_m1_neg (by omega)).mpr c_13; omega⟩
    have hq9 : nI i9 = nI (i9 + 1) - 1 := (nI_s1 i9).symm
    replace hl4 : lv_has ls4 4 [(3, .int (nI i9)), (2, .int (lnF S (i9 + 1))), (1, .int (S 3)), (0, .ref (mm 0))] := (congrArg (fun z9 => lv_has ls4 4 [(3, .int z9), (2, .int (lnF S (i9 + 1))), (1, .int (S 3)), (0, .ref (mm 0))]) hq9).mpr hl4
    clear hq9
    refine lv_aload_n hx hb dX7_line_16 rfl (lv_at hl4 3 rfl) ?_
    refine va_get (D := D) (ci := 7) (v := .ref (mm 1)) (C := RX7) (T := TX7) (N := 23) hx hb hw iX7 hown hK hP1 0 rfl rfl 0 (by decide) (hw _ kw_4_64) (fun _ h9 => h9) rfl dX7_line_17 ?_
    refine lv_iconst (v := 3) hx hb dX7_line_20 (by decide) ?_
    refine lv_iload_n hx hb dX7_line_21 rfl (lv_at hl4 0 rfl) ?_
    refine ast_i (f := X1) (ws' := [mO cy mm ik tl fm tz vl iw rm1 rr1 om, ia cy (mm 1) 169 (upd X1 3 (nI i9)), ia cy (mm 4) 7 C, ia cy (mm 6) 6 P1, ia cy (mm 7) 6 N1]) hx hb hK hP1 hD1 hS1 1 0 rfl rfl 3 rfl (by first | omega | assumption) (by decide) rfl dX7_line_22 (fun H2 locs2 hP2 hD2 hS2 => ?_)
    clear hP1 hD1 hS1 locs1 H1
    have hq9 : ([mO cy mm ik tl fm tz vl iw rm1 rr1 om, ia cy (mm 1) 169 (upd X1 3 (nI i9)), ia cy (mm 4) 7 C, ia cy (mm 6) 6 P1, ia cy (mm 7) 6 N1]) = ([mO cy mm ik tl fm tz vl iw rm1 rr1 om, ia cy (mm 1) 169 (upd S 3 (nI i9)), ia cy (mm 4) 7 C, ia cy (mm 6) 6 P1, ia cy (mm 7) 6 N1]) := congrArg (fun z9 => [mO cy mm ik tl fm tz vl iw rm1 rr1 om, ia cy (mm 1) 169 z9, ia cy (mm 4) 7 C, ia cy (mm 6) 6 P1, ia cy (mm 7) 6 N1]) (show (upd X1 3 (nI i9)) = (upd S 3 (nI i9)) from hU (nI i9))
    replace hP2 := (congrArg (fun z9 => va_P D vwCl z9 _) hq9).mp hP2
    replace hD2 := (congrArg (fun z9 => va_D _ z9) hq9).mp hD2
    clear hq9
    refine lv_aload_n hx hb dX7_line_23 rfl (lv_at hl4 3 rfl) ?_
    refine cV_v (wc := [mO cy mm ik tl fm tz vl iw rm1 rr1 om, ia cy (mm 1) 169 (upd S 3 (nI i9)), ia cy (mm 6) 6 P1, ia cy (mm 7) 6 N1]) (wr := [ia cy (mm 4) 7 C]) (rest := []) hx hb hml hown hw hG hK hP2 hD2 hS2 hA hl4 kc_X7_rests kw_5_57 [] (c_X7_rests l D cy G H2.size mm ik tl fm tz vl iw rm1 rr1 om (upd S 3 (nI i9)) P1 N1 ((wf_nt wf (by decide) (by decide) (by decide) (nI i9)).1)) [0, 1, 3, 4] [2] rfl rfl rfl rfl rfl 0 rfl rfl rfl rfl rfl (Nat.le_of_ble_eq_true rfl) ⟨Nat.le_of_ble_eq_true rfl, Nat.le_of_ble_eq_true rfl⟩ dX7_line_24 ⟨Nat.le_of_ble_eq_true rfl, Nat.le_of_ble_eq_true rfl⟩ (fun u9 H3 locs3 hu9 hP3 hD3 hS3 => ?_)
    clear hP2 hD2 hS2 locs2 H2
    obtain ⟨N1_24, rfl⟩ : ∃ z9, z9 = u9 := ⟨_, rfl⟩
    replace hP3 : va_P D vwCl ([ia cy (mm 4) 7 C, mO cy mm ik tl fm tz vl iw (nI (RC (upd S 3 (nI i9)))) (b2i (RC (upd S 3 (nI i9)) = 60)) om, ia cy (mm 1) 169 (upd S 3 (nI i9)), ia cy (mm 6) 6 (PR (upd S 3 (nI i9))), ia cy (mm 7) 6 N1_24]) H3 := hP3
    replace hD3 : va_D (va_A _ sz) ([ia cy (mm 4) 7 C, mO cy mm ik tl fm tz vl iw (nI (RC (upd S 3 (nI i9)))) (b2i (RC (upd S 3 (nI i9)) = 60)) om, ia cy (mm 1) 169 (upd S 3 (nI i9)), ia cy (mm 6) 6 (PR (upd S 3 (nI i9))), ia cy (mm 7) 6 N1_24]) := hD3
    replace hP3 := hP3.sub (ws' := [mO cy mm ik tl fm tz vl iw (nI (RC (upd S 3 (nI i9)))) (b2i (RC (upd S 3 (nI i9)) = 60)) om, ia cy (mm 1) 169 (upd S 3 (nI i9)), ia cy (mm 4) 7 C, ia cy (mm 6) 6 (PR (upd S 3 (nI i9))), ia cy (mm 7) 6 N1_24]) [1, 2, 0, 3, 4] rfl
    replace hD3 := hD3.sub (ws' := [mO cy mm ik tl fm tz vl iw (nI (RC (upd S 3 (nI i9)))) (b2i (RC (upd S 3 (nI i9)) = 60)) om, ia cy (mm 1) 169 (upd S 3 (nI i9)), ia cy (mm 4) 7 C, ia cy (mm 6) 6 (PR (upd S 3 (nI i9))), ia cy (mm 7) 6 N1_24]) [1, 2, 0, 3, 4] (by decide) rfl
    refine lv_aload_n hx hb dX7_line_27 rfl (lv_at hl4 3 rfl) ?_
    refine rV_i (wc := [mO cy mm ik tl fm tz vl iw (nI (RC (upd S 3 (nI i9)))) (b2i (RC (upd S 3 (nI i9)) = 60)) om, ia cy (mm 1) 169 (upd S 3 (nI i9)), ia cy (mm 6) 6 (PR (upd S 3 (nI i9)))]) (rest := []) hx hb hml hown hw hG hK hP3 hS3 hA hl4 kc_X7_smokes kw_5_109 [] (c_X7_smokes l D cy G H3.size mm ik tl fm tz vl iw (nI (RC (upd S 3 (nI i9)))) (b2i (RC (upd S 3 (nI i9)) = 60)) om (upd S 3 (nI i9)) (PR (upd S 3 (nI i9))) ((wf_nt wf (by decide) (by decide) (by decide) (nI i9)).1)) [0, 1, 3] rfl 0 rfl rfl rfl rfl rfl (Nat.le_of_ble_eq_true rfl) ⟨Nat.le_of_ble_eq_true rfl, Nat.le_of_ble_eq_true rfl⟩ dX7_line_28 ⟨Nat.le_of_ble_eq_true rfl, Nat.le_of_ble_eq_true rfl⟩ (fun r_28 H4 locs4 hr_28 hP4 hS4 => ?_)
    have hD4 := hD3
    clear hP3 hD3 hS3 locs3 H3
    subst hr_28
    refine tp (show (b2i (smk (upd S 3 (nI i9)) (PR (upd S 3 (nI i9))) (gcN (upd S 3 (nI i9))) = true)) = b2i (smokes (upd S 3 (nI i9)) = true) from rfl) ?_
    refine lb_eq (tgt := 38) hx hb dX7_line_31 (by decide) (fun c_31 => ?_) (fun c_31 => ?_)
    · refine lv_iload_n hx hb dX7_line_38 rfl (lv_at hl4 1 rfl) ?_
      refine lv_istore_n (lv' := [(2, .int (lnF S (i9 + 1))), (3, .int (nI i9)), (1, .int (S 3)), (0, .ref (mm 0))]) hx hb dX7_line_39 rfl hl4 (by decide) rfl (fun ls5 hl5 => ?_)
      clear hl4 ls4
      refine lv_iinc (v := (nI i9) + (-1)) (lv' := [(3, .int ((nI i9) + (-1))), (2, .int (lnF S (i9 + 1))), (1, .int (S 3)), (0, .ref (mm 0))]) hx hb dX7_line_40 hl5 (k := 1) rfl (rfl) (by decide) rfl (fun ls6 hl6 => ?_)
      clear hl5 ls5
      have hq9 : nI i9 - 1 = (nI i9) + (-1) := (pk_s1 i9).symm
      replace hl6 : lv_has ls6 4 [(3, .int (nI i9 - 1)), (2, .int (lnF S (i9 + 1))), (1, .int (S 3)), (0, .ref (mm 0))] := (congrArg (fun z9 => lv_has ls6 4 [(3, .int z9), (2, .int (lnF S (i9 + 1))), (1, .int (S 3)), (0, .ref (mm 0))]) hq9).mpr hl6
      clear hq9
      have hq9 : lnF S i9 = lnF S (i9 + 1) := by rw [lnF_s (by omega)]; clear hx hb hml hown hr hlocks hw hsz hA hG hK hP4 hD4 hS4 hl6 ih_12; grind
      replace hl6 : lv_has ls6 4 [(3, .int (nI i9 - 1)), (2, .int (lnF S i9)), (1, .int (S 3)), (0, .ref (mm 0))] := (congrArg (fun z9 => lv_has ls6 4 [(3, .int (nI i9 - 1)), (2, .int z9), (1, .int (S 3)), (0, .ref (mm 0))]) hq9).mpr hl6
      clear hq9
      refine lv_goto (tgt := 12) hx hb dX7_line_43 (by decide) ?_
      exact ih_12 (i9, upd S 3 (nI i9), PR (upd S 3 (nI i9)), N1_24, nI (RC (upd S 3 (nI i9))), b2i (RC (upd S 3 (nI i9)) = 60)) (⟨by first | omega | assumption | rfl | simp_all, fun v => upd_upd S _ _ v⟩) (by (try dsimp only); omega) H4 locs4 ls6 hP4 hD4 hS4 (lv_sub hl6 [0, 1, 2, 3] rfl)
    · refine lv_iload_n hx hb dX7_line_34 rfl (lv_at hl4 0 rfl) ?_
      refine lv_goto (tgt := 39) hx hb dX7_line_35 (by decide) ?_
      refine lv_istore_n (lv' := [(2, .int (nI i9)), (3, .int (nI i9)), (1, .int (S 3)), (0, .ref (mm 0))]) hx hb dX7_line_39 rfl hl4 (by decide) rfl (fun ls5 hl5 => ?_)
      clear hl4 ls4
      refine lv_iinc (v := (nI i9) + (-1)) (lv' := [(3, .int ((nI i9) + (-1))), (2, .int (nI i9)), (1, .int (S 3)), (0, .ref (mm 0))]) hx hb dX7_line_40 hl5 (k := 1) rfl (rfl) (by decide) rfl (fun ls6 hl6 => ?_)
      clear hl5 ls5
      have hq9 : nI i9 - 1 = (nI i9) + (-1) := (pk_s1 i9).symm
      replace hl6 : lv_has ls6 4 [(3, .int (nI i9 - 1)), (2, .int (nI i9)), (1, .int (S 3)), (0, .ref (mm 0))] := (congrArg (fun z9 => lv_has ls6 4 [(3, .int z9), (2, .int (nI i9)), (1, .int (S 3)), (0, .ref (mm 0))]) hq9).mpr hl6
      clear hq9
      have hq9 : lnF S i9 = nI i9 := by rw [lnF_s (by omega)]; clear hx hb hml hown hr hlocks hw hsz hA hG hK hP4 hD4 hS4 hl6 ih_12; grind
      replace hl6 : lv_has ls6 4 [(3, .int (nI i9 - 1)), (2, .int (lnF S i9)), (1, .int (S 3)), (0, .ref (mm 0))] := (congrArg (fun z9 => lv_has ls6 4 [(3, .int (nI i9 - 1)), (2, .int z9), (1, .int (S 3)), (0, .ref (mm 0))]) hq9).mpr hl6
      clear hq9
      refine lv_goto (tgt := 12) hx hb dX7_line_43 (by decide) ?_
      exact ih_12 (i9, upd S 3 (nI i9), PR (upd S 3 (nI i9)), N1_24, nI (RC (upd S 3 (nI i9))), b2i (RC (upd S 3 (nI i9)) = 60)) (⟨by first | omega | assumption | rfl | simp_all, fun v => upd_upd S _ _ v⟩) (by (try dsimp only); omega) H4 locs4 ls6 hP4 hD4 hS4 (lv_sub hl6 [0, 1, 2, 3] rfl)

theorem kc_X7_alone : kV yX7_alone cX7_alone 6 (some .int) 2 := ⟨kw_5_181, kw_5_182, kw_1_8, kw_5_183, by decide, by decide, by decide +kernel⟩
set_option maxHeartbeats 4000000 in
set_option maxRecDepth 100000 in
theorem c_X7_alone (l : Launch) (D : va_G) (cy : Nat → ClassId) (G : Nat → Nat) (sz : Nat) (mm : Nat → Nat) (ik : Int32) (tl : Int32) (fm : Int32) (tz : Int32) (vl : Int32) (iw : Int32) (rm : Int32) (rr : Int32) (om : Int32) (S : Nat → Int32) (C : Nat → Int32) (P : Nat → Int32) (N : Nat → Int32) (x1 : Int32) (x2 : Int32) (wf : wf S) : Met l yX7_alone (wm yX7_alone cX7_alone 6 (some .int)) { frames := 5, cells := 0, slots := 0, locals := 113 } (va_Pc [.ref (mm 0), .int x1, .int x2] (pr D (TY cy) G ([mO cy mm ik tl fm tz vl iw rm rr om, ia cy (mm 1) 169 S, ia cy (mm 4) 7 C, ia cy (mm 6) 6 P, ia cy (mm 7) 6 N]) sz)) (va_Qi (fun (r : Int32) (u : (Nat → Int32) × (Nat → Int32) × Int32 × Int32) => r = ans (cAlone S x1 x2) (vAlone S (bstN x1) (bstN x2))) (fun (u : (Nat → Int32) × (Nat → Int32) × Int32 × Int32) t => po D (va_A ([mO cy mm ik tl fm tz vl iw rm rr om, ia cy (mm 1) 169 S, ia cy (mm 4) 7 C, ia cy (mm 6) 6 P, ia cy (mm 7) 6 N]) sz) ([mO cy mm ik tl fm tz vl iw u.2.2.1 u.2.2.2 om, ia cy (mm 1) 169 S, ia cy (mm 4) 7 (fnd C (cAlone S x1 x2)), ia cy (mm 6) 6 u.1, ia cy (mm 7) 6 u.2.1]) t) (va_A ([mO cy mm ik tl fm tz vl iw rm rr om, ia cy (mm 1) 169 S, ia cy (mm 4) 7 C, ia cy (mm 6) 6 P, ia cy (mm 7) 6 N]) sz)) 0 0 (va_A ([mO cy mm ik tl fm tz vl iw rm rr om, ia cy (mm 1) 169 S, ia cy (mm 4) 7 C, ia cy (mm 6) 6 P, ia cy (mm 7) 6 N]) sz) := by
  refine mk_rw (by decide) RX7 rfl (Nat.le_of_ble_eq_true rfl) [(0, .ref (mm 0)), (1, .int x1), (2, .int x2)] rfl ?_
  intro p e s m below meth c hx hb hml hown hr hlocks hin hw hsz hA hG hK H0 locs0 hP0 hD0 hS0 ls0 hl0
  clear hin
  have hg20 := wf_g20 wf
  have hr6 := wf_r6 wf
  refine lv_aload_n hx hb dX7_alone_0 rfl (lv_at hl0 0 rfl) ?_
  refine lv_iload_n hx hb dX7_alone_1 rfl (lv_at hl0 1 rfl) ?_
  refine rV_i (wc := [mO cy mm ik tl fm tz vl iw rm rr om, ia cy (mm 1) 169 S]) (rest := []) hx hb hml hown hw hG hK hP0 hS0 hA hl0 kc_X7_isGap kw_4_169 [.int x1] (c_X7_isGap l D cy G H0.size mm ik tl fm tz vl iw rm rr om S x1 (by first | omega | assumption)) [0, 1] rfl 0 rfl rfl rfl rfl rfl (Nat.le_of_ble_eq_true rfl) ⟨Nat.le_of_ble_eq_true rfl, Nat.le_of_ble_eq_true rfl⟩ dX7_alone_2 ⟨Nat.le_of_ble_eq_true rfl, Nat.le_of_ble_eq_true rfl⟩ (fun r_2 H1 locs1 hr_2 hP1 hS1 => ?_)
  have hD1 := hD0
  clear hP0 hD0 hS0 locs0 H0
  subst hr_2
  refine lb_eq (tgt := 21) hx hb dX7_alone_5 (by decide) (fun c_5 => ?_) (fun c_5 => ?_)
  · refine lv_aload_n hx hb dX7_alone_21 rfl (lv_at hl0 0 rfl) ?_
    refine lv_ldc (v := (-1000000001)) hx hb hown (hw _ kw_4_143) dX7_alone_22 ?_
    refine cV_i (wc := [mO cy mm ik tl fm tz vl iw rm rr om, ia cy (mm 4) 7 C]) (wr := [ia cy (mm 1) 169 S, ia cy (mm 6) 6 P, ia cy (mm 7) 6 N]) (rest := []) hx hb hml hown hw hG hK hP1 hD1 hS1 hA hl0 kc_X7_finds kw_4_139 [.int (-1000000001)] (c_X7_finds l D cy G H1.size mm ik tl fm tz vl iw rm rr om C 0 (-1000000001) (by decide) (by decide)) [0, 2] [1, 3, 4] rfl rfl rfl rfl rfl 0 rfl rfl rfl rfl rfl (Nat.le_of_ble_eq_true rfl) ⟨Nat.le_of_ble_eq_true rfl, Nat.le_of_ble_eq_true rfl⟩ dX7_alone_24 ⟨Nat.le_of_ble_eq_true rfl, Nat.le_of_ble_eq_true rfl⟩ (fun r_24 u9 H2 locs2 hu9 hP2 hD2 hS2 => ?_)
    clear hP1 hD1 hS1 locs1 H1
    have hr_24 := hu9
    replace hP2 : va_P D vwCl ([ia cy (mm 1) 169 S, ia cy (mm 6) 6 P, ia cy (mm 7) 6 N, mO cy mm ik tl fm tz vl iw rm rr om, ia cy (mm 4) 7 (upd C 0 (C 0 + 1))]) H2 := hP2
    replace hD2 : va_D (va_A _ sz) ([ia cy (mm 1) 169 S, ia cy (mm 6) 6 P, ia cy (mm 7) 6 N, mO cy mm ik tl fm tz vl iw rm rr om, ia cy (mm 4) 7 (upd C 0 (C 0 + 1))]) := hD2
    replace hP2 := hP2.sub (ws' := [mO cy mm ik tl fm tz vl iw rm rr om, ia cy (mm 1) 169 S, ia cy (mm 4) 7 (upd C 0 (C 0 + 1)), ia cy (mm 6) 6 P, ia cy (mm 7) 6 N]) [3, 0, 4, 1, 2] rfl
    replace hD2 := hD2.sub (ws' := [mO cy mm ik tl fm tz vl iw rm rr om, ia cy (mm 1) 169 S, ia cy (mm 4) 7 (upd C 0 (C 0 + 1)), ia cy (mm 6) 6 P, ia cy (mm 7) 6 N]) [3, 0, 4, 1, 2] (by decide) rfl
    subst hr_24
    have hcd : cAlone S x1 x2 = 0 := by unfold cAlone; clear hx hb hml hown hr hlocks hw hsz hA hG hK hP2 hD2 hS2 hl0; grind
    have hq9 : ([mO cy mm ik tl fm tz vl iw rm rr om, ia cy (mm 1) 169 S, ia cy (mm 4) 7 (upd C 0 (C 0 + 1)), ia cy (mm 6) 6 P, ia cy (mm 7) 6 N]) = ([mO cy mm ik tl fm tz vl iw rm rr om, ia cy (mm 1) 169 S, ia cy (mm 4) 7 (fnd C (cAlone S x1 x2)), ia cy (mm 6) 6 P, ia cy (mm 7) 6 N]) := congrArg (fun z9 => [mO cy mm ik tl fm tz vl iw rm rr om, ia cy (mm 1) 169 S, ia cy (mm 4) 7 z9, ia cy (mm 6) 6 P, ia cy (mm 7) 6 N]) (show (upd C 0 (C 0 + 1)) = (fnd C (cAlone S x1 x2)) from fnd_f hcd (by decide))
    replace hP2 := (congrArg (fun z9 => va_P D vwCl z9 _) hq9).mp hP2
    replace hD2 := (congrArg (fun z9 => va_D _ z9) hq9).mp hD2
    clear hq9
    refine re_i (P, N, rm, rr) hx hb hr hlocks hP2 hD2 hS2 dX7_alone_27 ?_
    exact (ans_f hcd (by decide) rfl)
  · refine lv_aload_n hx hb dX7_alone_8 rfl (lv_at hl0 0 rfl) ?_
    refine lv_iload_n hx hb dX7_alone_9 rfl (lv_at hl0 2 rfl) ?_
    refine rV_i (wc := [mO cy mm ik tl fm tz vl iw rm rr om, ia cy (mm 1) 169 S]) (rest := []) hx hb hml hown hw hG hK hP1 hS1 hA hl0 kc_X7_isGap kw_4_169 [.int x2] (c_X7_isGap l D cy G H1.size mm ik tl fm tz vl iw rm rr om S x2 (by first | omega | assumption)) [0, 1] rfl 0 rfl rfl rfl rfl rfl (Nat.le_of_ble_eq_true rfl) ⟨Nat.le_of_ble_eq_true rfl, Nat.le_of_ble_eq_true rfl⟩ dX7_alone_10 ⟨Nat.le_of_ble_eq_true rfl, Nat.le_of_ble_eq_true rfl⟩ (fun r_10 H2 locs2 hr_10 hP2 hS2 => ?_)
    have hD2 := hD1
    clear hP1 hD1 hS1 locs1 H1
    subst hr_10
    refine lb_eq (tgt := 21) hx hb dX7_alone_13 (by decide) (fun c_13 => ?_) (fun c_13 => ?_)
    · refine lv_aload_n hx hb dX7_alone_21 rfl (lv_at hl0 0 rfl) ?_
      refine lv_ldc (v := (-1000000001)) hx hb hown (hw _ kw_4_143) dX7_alone_22 ?_
      refine cV_i (wc := [mO cy mm ik tl fm tz vl iw rm rr om, ia cy (mm 4) 7 C]) (wr := [ia cy (mm 1) 169 S, ia cy (mm 6) 6 P, ia cy (mm 7) 6 N]) (rest := []) hx hb hml hown hw hG hK hP2 hD2 hS2 hA hl0 kc_X7_finds kw_4_139 [.int (-1000000001)] (c_X7_finds l D cy G H2.size mm ik tl fm tz vl iw rm rr om C 0 (-1000000001) (by decide) (by decide)) [0, 2] [1, 3, 4] rfl rfl rfl rfl rfl 0 rfl rfl rfl rfl rfl (Nat.le_of_ble_eq_true rfl) ⟨Nat.le_of_ble_eq_true rfl, Nat.le_of_ble_eq_true rfl⟩ dX7_alone_24 ⟨Nat.le_of_ble_eq_true rfl, Nat.le_of_ble_eq_true rfl⟩ (fun r_24 u9 H3 locs3 hu9 hP3 hD3 hS3 => ?_)
      clear hP2 hD2 hS2 locs2 H2
      have hr_24 := hu9
      replace hP3 : va_P D vwCl ([ia cy (mm 1) 169 S, ia cy (mm 6) 6 P, ia cy (mm 7) 6 N, mO cy mm ik tl fm tz vl iw rm rr om, ia cy (mm 4) 7 (upd C 0 (C 0 + 1))]) H3 := hP3
      replace hD3 : va_D (va_A _ sz) ([ia cy (mm 1) 169 S, ia cy (mm 6) 6 P, ia cy (mm 7) 6 N, mO cy mm ik tl fm tz vl iw rm rr om, ia cy (mm 4) 7 (upd C 0 (C 0 + 1))]) := hD3
      replace hP3 := hP3.sub (ws' := [mO cy mm ik tl fm tz vl iw rm rr om, ia cy (mm 1) 169 S, ia cy (mm 4) 7 (upd C 0 (C 0 + 1)), ia cy (mm 6) 6 P, ia cy (mm 7) 6 N]) [3, 0, 4, 1, 2] rfl
      replace hD3 := hD3.sub (ws' := [mO cy mm ik tl fm tz vl iw rm rr om, ia cy (mm 1) 169 S, ia cy (mm 4) 7 (upd C 0 (C 0 + 1)), ia cy (mm 6) 6 P, ia cy (mm 7) 6 N]) [3, 0, 4, 1, 2] (by decide) rfl
      subst hr_24
      have hcd : cAlone S x1 x2 = 0 := by unfold cAlone; clear hx hb hml hown hr hlocks hw hsz hA hG hK hP3 hD3 hS3 hl0; grind
      have hq9 : ([mO cy mm ik tl fm tz vl iw rm rr om, ia cy (mm 1) 169 S, ia cy (mm 4) 7 (upd C 0 (C 0 + 1)), ia cy (mm 6) 6 P, ia cy (mm 7) 6 N]) = ([mO cy mm ik tl fm tz vl iw rm rr om, ia cy (mm 1) 169 S, ia cy (mm 4) 7 (fnd C (cAlone S x1 x2)), ia cy (mm 6) 6 P, ia cy (mm 7) 6 N]) := congrArg (fun z9 => [mO cy mm ik tl fm tz vl iw rm rr om, ia cy (mm 1) 169 S, ia cy (mm 4) 7 z9, ia cy (mm 6) 6 P, ia cy (mm 7) 6 N]) (show (upd C 0 (C 0 + 1)) = (fnd C (cAlone S x1 x2)) from fnd_f hcd (by decide))
      replace hP3 := (congrArg (fun z9 => va_P D vwCl z9 _) hq9).mp hP3
      replace hD3 := (congrArg (fun z9 => va_D _ z9) hq9).mp hD3
      clear hq9
      refine re_i (P, N, rm, rr) hx hb hr hlocks hP3 hD3 hS3 dX7_alone_27 ?_
      exact (ans_f hcd (by decide) rfl)
    · refine lv_iload_n hx hb dX7_alone_16 rfl (lv_at hl0 1 rfl) ?_
      refine lv_iload_n hx hb dX7_alone_17 rfl (lv_at hl0 2 rfl) ?_
      refine lv_icmp_ne (tgt := 28) hx hb dX7_alone_18 (by decide) (fun c_18 => ?_) (fun c_18 => ?_)
      · obtain ⟨j, hj, rfl⟩ := wf_gap wf c_5
        have hbj : bstN (nI j) = j := bst_n (by omega)
        obtain ⟨k, hk, rfl⟩ := wf_gap wf c_13
        have hbk : bstN (nI k) = k := bst_n (by omega)
        have hp2 : 2 ^ k ≤ 2 ^ 20 := Nat.pow_le_pow_right (by decide) (by omega)
        have hws := wf_sh wf (j := k) (x := 1) (by omega) (Or.inr rfl)
        refine lv_aload_n hx hb dX7_alone_28 rfl (lv_at hl0 0 rfl) ?_
        refine cV_v (wc := [mO cy mm ik tl fm tz vl iw rm rr om, ia cy (mm 1) 169 S, ia cy (mm 6) 6 P, ia cy (mm 7) 6 N]) (wr := [ia cy (mm 4) 7 C]) (rest := []) hx hb hml hown hw hG hK hP2 hD2 hS2 hA hl0 kc_X7_rests kw_5_57 [] (c_X7_rests l D cy G H2.size mm ik tl fm tz vl iw rm rr om S P N (by first | omega | assumption)) [0, 1, 3, 4] [2] rfl rfl rfl rfl rfl 0 rfl rfl rfl rfl rfl (Nat.le_of_ble_eq_true rfl) ⟨Nat.le_of_ble_eq_true rfl, Nat.le_of_ble_eq_true rfl⟩ dX7_alone_29 ⟨Nat.le_of_ble_eq_true rfl, Nat.le_of_ble_eq_true rfl⟩ (fun u9 H3 locs3 hu9 hP3 hD3 hS3 => ?_)
        clear hP2 hD2 hS2 locs2 H2
        obtain ⟨N1_29, rfl⟩ : ∃ z9, z9 = u9 := ⟨_, rfl⟩
        replace hP3 : va_P D vwCl ([ia cy (mm 4) 7 C, mO cy mm ik tl fm tz vl iw (nI (RC S)) (b2i (RC S = 60)) om, ia cy (mm 1) 169 S, ia cy (mm 6) 6 (PR S), ia cy (mm 7) 6 N1_29]) H3 := hP3
        replace hD3 : va_D (va_A _ sz) ([ia cy (mm 4) 7 C, mO cy mm ik tl fm tz vl iw (nI (RC S)) (b2i (RC S = 60)) om, ia cy (mm 1) 169 S, ia cy (mm 6) 6 (PR S), ia cy (mm 7) 6 N1_29]) := hD3
        replace hP3 := hP3.sub (ws' := [mO cy mm ik tl fm tz vl iw (nI (RC S)) (b2i (RC S = 60)) om, ia cy (mm 1) 169 S, ia cy (mm 4) 7 C, ia cy (mm 6) 6 (PR S), ia cy (mm 7) 6 N1_29]) [1, 2, 0, 3, 4] rfl
        replace hD3 := hD3.sub (ws' := [mO cy mm ik tl fm tz vl iw (nI (RC S)) (b2i (RC S = 60)) om, ia cy (mm 1) 169 S, ia cy (mm 4) 7 C, ia cy (mm 6) 6 (PR S), ia cy (mm 7) 6 N1_29]) [1, 2, 0, 3, 4] (by decide) rfl
        refine lv_aload_n hx hb dX7_alone_32 rfl (lv_at hl0 0 rfl) ?_
        refine lv_iload_n hx hb dX7_alone_33 rfl (lv_at hl0 1 rfl) ?_
        refine rV_i (wc := [mO cy mm ik tl fm tz vl iw (nI (RC S)) (b2i (RC S = 60)) om, ia cy (mm 1) 169 S, ia cy (mm 6) 6 (PR S)]) (rest := []) hx hb hml hown hw hG hK hP3 hS3 hA hl0 kc_X7_flowOf kw_5_73 [.int (nI j)] (c_X7_flowOf l D cy G H3.size mm ik tl fm tz vl iw (nI (RC S)) (b2i (RC S = 60)) om S (PR S) j (by first | omega | assumption) (by first | omega | assumption)) [0, 1, 3] rfl 0 rfl rfl rfl rfl rfl (Nat.le_of_ble_eq_true rfl) ⟨Nat.le_of_ble_eq_true rfl, Nat.le_of_ble_eq_true rfl⟩ dX7_alone_34 ⟨Nat.le_of_ble_eq_true rfl, Nat.le_of_ble_eq_true rfl⟩ (fun r_34 H4 locs4 hr_34 hP4 hS4 => ?_)
        have hD4 := hD3
        clear hP3 hD3 hS3 locs3 H3
        subst hr_34
        refine lv_istore_n (lv' := [(3, .int (flow S (PR S) j)), (0, .ref (mm 0)), (1, .int (nI j)), (2, .int (nI k))]) hx hb dX7_alone_37 rfl hl0 (by decide) rfl (fun ls1 hl1 => ?_)
        clear hl0 ls0
        refine lv_aload_n hx hb dX7_alone_38 rfl (lv_at hl1 1 rfl) ?_
        refine lv_iload_n hx hb dX7_alone_39 rfl (lv_at hl1 3 rfl) ?_
        refine lv_bipush (v := 7) hx hb dX7_alone_40 (by decide) ?_
        refine rV_i (wc := [mO cy mm ik tl fm tz vl iw (nI (RC S)) (b2i (RC S = 60)) om, ia cy (mm 1) 169 S]) (rest := []) hx hb hml hown hw hG hK hP4 hS4 hA hl1 kc_X7_has kw_4_174 [.int (nI k), .int 7] (c_X7_has l D cy G H4.size mm ik tl fm tz vl iw (nI (RC S)) (b2i (RC S = 60)) om S k 7 (by first | omega | assumption) (by first | omega | assumption)) [0, 1] rfl 0 rfl rfl rfl rfl rfl (Nat.le_of_ble_eq_true rfl) ⟨Nat.le_of_ble_eq_true rfl, Nat.le_of_ble_eq_true rfl⟩ dX7_alone_42 ⟨Nat.le_of_ble_eq_true rfl, Nat.le_of_ble_eq_true rfl⟩ (fun r_42 H5 locs5 hr_42 hP5 hS5 => ?_)
        have hD5 := hD4
        clear hP4 hD4 hS4 locs4 H4
        subst hr_42
        refine tp (show (S (9 + 8 * k + 7)) = S (16 + 8 * k) from congrArg _ (by omega)) ?_
        refine lv_istore (lv' := [(4, .int (S (16 + 8 * k))), (3, .int (flow S (PR S) j)), (0, .ref (mm 0)), (1, .int (nI j)), (2, .int (nI k))]) hx hb dX7_alone_45 hl1 (by decide) rfl (fun ls2 hl2 => ?_)
        clear hl1 ls1
        refine lv_aload_n hx hb dX7_alone_47 rfl (lv_at hl2 2 rfl) ?_
        refine lv_iconst (v := 1) hx hb dX7_alone_48 (by decide) ?_
        refine lv_iload_n hx hb dX7_alone_49 rfl (lv_at hl2 4 rfl) ?_
        refine lv_ishl hx hb dX7_alone_50 ?_
        refine tp (show (1 <<< ((nI k) &&& 31)) = nI (2 ^ k) from shl_1 (by omega)) ?_
        refine lv_iconst (v := 1) hx hb dX7_alone_51 (by decide) ?_
        refine cV_v (wc := [mO cy mm ik tl fm tz vl iw (nI (RC S)) (b2i (RC S = 60)) om, ia cy (mm 1) 169 S]) (wr := [ia cy (mm 4) 7 C, ia cy (mm 6) 6 (PR S), ia cy (mm 7) 6 N1_29]) (rest := []) hx hb hml hown hw hG hK hP5 hD5 hS5 hA hl2 kc_X7_shuts kw_5_154 [.int (nI (2 ^ k)), .int 1] (c_X7_shuts l D cy G H5.size mm ik tl fm tz vl iw (nI (RC S)) (b2i (RC S = 60)) om S (2 ^ k) 1 wf (by omega)) [0, 1] [2, 3, 4] rfl rfl rfl rfl rfl 0 rfl rfl rfl rfl rfl (Nat.le_of_ble_eq_true rfl) ⟨Nat.le_of_ble_eq_true rfl, Nat.le_of_ble_eq_true rfl⟩ dX7_alone_52 ⟨Nat.le_of_ble_eq_true rfl, Nat.le_of_ble_eq_true rfl⟩ (fun u9 H6 locs6 hu9 hP6 hD6 hS6 => ?_)
        clear hP5 hD5 hS5 locs5 H5
        replace hP6 : va_P D vwCl ([ia cy (mm 4) 7 C, ia cy (mm 6) 6 (PR S), ia cy (mm 7) 6 N1_29, mO cy mm ik tl fm tz vl iw (nI (RC S)) (b2i (RC S = 60)) om, ia cy (mm 1) 169 (shS S 1 (2 ^ k) (gcN S))]) H6 := hP6
        replace hD6 : va_D (va_A _ sz) ([ia cy (mm 4) 7 C, ia cy (mm 6) 6 (PR S), ia cy (mm 7) 6 N1_29, mO cy mm ik tl fm tz vl iw (nI (RC S)) (b2i (RC S = 60)) om, ia cy (mm 1) 169 (shS S 1 (2 ^ k) (gcN S))]) := hD6
        replace hP6 := hP6.sub (ws' := [mO cy mm ik tl fm tz vl iw (nI (RC S)) (b2i (RC S = 60)) om, ia cy (mm 1) 169 (shS S 1 (2 ^ k) (gcN S)), ia cy (mm 4) 7 C, ia cy (mm 6) 6 (PR S), ia cy (mm 7) 6 N1_29]) [3, 4, 0, 1, 2] rfl
        replace hD6 := hD6.sub (ws' := [mO cy mm ik tl fm tz vl iw (nI (RC S)) (b2i (RC S = 60)) om, ia cy (mm 1) 169 (shS S 1 (2 ^ k) (gcN S)), ia cy (mm 4) 7 C, ia cy (mm 6) 6 (PR S), ia cy (mm 7) 6 N1_29]) [3, 4, 0, 1, 2] (by decide) rfl
        have hq9 : ([mO cy mm ik tl fm tz vl iw (nI (RC S)) (b2i (RC S = 60)) om, ia cy (mm 1) 169 (shS S 1 (2 ^ k) (gcN S)), ia cy (mm 4) 7 C, ia cy (mm 6) 6 (PR S), ia cy (mm 7) 6 N1_29]) = ([mO cy mm ik tl fm tz vl iw (nI (RC S)) (b2i (RC S = 60)) om, ia cy (mm 1) 169 (upd S (16 + 8 * k) 1), ia cy (mm 4) 7 C, ia cy (mm 6) 6 (PR S), ia cy (mm 7) 6 N1_29]) := congrArg (fun z9 => [mO cy mm ik tl fm tz vl iw (nI (RC S)) (b2i (RC S = 60)) om, ia cy (mm 1) 169 z9, ia cy (mm 4) 7 C, ia cy (mm 6) 6 (PR S), ia cy (mm 7) 6 N1_29]) (show (shS S 1 (2 ^ k) (gcN S)) = (upd S (16 + 8 * k) 1) from shS_one hk)
        replace hP6 := (congrArg (fun z9 => va_P D vwCl z9 _) hq9).mp hP6
        replace hD6 := (congrArg (fun z9 => va_D _ z9) hq9).mp hD6
        clear hq9
        refine lv_aload_n hx hb dX7_alone_55 rfl (lv_at hl2 2 rfl) ?_
        refine cV_v (wc := [mO cy mm ik tl fm tz vl iw (nI (RC S)) (b2i (RC S = 60)) om, ia cy (mm 1) 169 (upd S (16 + 8 * k) 1), ia cy (mm 6) 6 (PR S), ia cy (mm 7) 6 N1_29]) (wr := [ia cy (mm 4) 7 C]) (rest := []) hx hb hml hown hw hG hK hP6 hD6 hS6 hA hl2 kc_X7_rests kw_5_57 [] (c_X7_rests l D cy G H6.size mm ik tl fm tz vl iw (nI (RC S)) (b2i (RC S = 60)) om (upd S (16 + 8 * k) 1) (PR S) N1_29 hws.1) [0, 1, 3, 4] [2] rfl rfl rfl rfl rfl 0 rfl rfl rfl rfl rfl (Nat.le_of_ble_eq_true rfl) ⟨Nat.le_of_ble_eq_true rfl, Nat.le_of_ble_eq_true rfl⟩ dX7_alone_56 ⟨Nat.le_of_ble_eq_true rfl, Nat.le_of_ble_eq_true rfl⟩ (fun u9 H7 locs7 hu9 hP7 hD7 hS7 => ?_)
        clear hP6 hD6 hS6 locs6 H6
        obtain ⟨N1_56, rfl⟩ : ∃ z9, z9 = u9 := ⟨_, rfl⟩
        replace hP7 : va_P D vwCl ([ia cy (mm 4) 7 C, mO cy mm ik tl fm tz vl iw (nI (RC (upd S (16 + 8 * k) 1))) (b2i (RC (upd S (16 + 8 * k) 1) = 60)) om, ia cy (mm 1) 169 (upd S (16 + 8 * k) 1), ia cy (mm 6) 6 (PR (upd S (16 + 8 * k) 1)), ia cy (mm 7) 6 N1_56]) H7 := hP7
        replace hD7 : va_D (va_A _ sz) ([ia cy (mm 4) 7 C, mO cy mm ik tl fm tz vl iw (nI (RC (upd S (16 + 8 * k) 1))) (b2i (RC (upd S (16 + 8 * k) 1) = 60)) om, ia cy (mm 1) 169 (upd S (16 + 8 * k) 1), ia cy (mm 6) 6 (PR (upd S (16 + 8 * k) 1)), ia cy (mm 7) 6 N1_56]) := hD7
        replace hP7 := hP7.sub (ws' := [mO cy mm ik tl fm tz vl iw (nI (RC (upd S (16 + 8 * k) 1))) (b2i (RC (upd S (16 + 8 * k) 1) = 60)) om, ia cy (mm 1) 169 (upd S (16 + 8 * k) 1), ia cy (mm 4) 7 C, ia cy (mm 6) 6 (PR (upd S (16 + 8 * k) 1)), ia cy (mm 7) 6 N1_56]) [1, 2, 0, 3, 4] rfl
        replace hD7 := hD7.sub (ws' := [mO cy mm ik tl fm tz vl iw (nI (RC (upd S (16 + 8 * k) 1))) (b2i (RC (upd S (16 + 8 * k) 1) = 60)) om, ia cy (mm 1) 169 (upd S (16 + 8 * k) 1), ia cy (mm 4) 7 C, ia cy (mm 6) 6 (PR (upd S (16 + 8 * k) 1)), ia cy (mm 7) 6 N1_56]) [1, 2, 0, 3, 4] (by decide) rfl
        refine lv_aload_n hx hb dX7_alone_59 rfl (lv_at hl2 2 rfl) ?_
        refine lv_iload_n hx hb dX7_alone_60 rfl (lv_at hl2 3 rfl) ?_
        refine rV_i (wc := [mO cy mm ik tl fm tz vl iw (nI (RC (upd S (16 + 8 * k) 1))) (b2i (RC (upd S (16 + 8 * k) 1) = 60)) om, ia cy (mm 1) 169 (upd S (16 + 8 * k) 1), ia cy (mm 6) 6 (PR (upd S (16 + 8 * k) 1))]) (rest := []) hx hb hml hown hw hG hK hP7 hS7 hA hl2 kc_X7_flowOf kw_5_73 [.int (nI j)] (c_X7_flowOf l D cy G H7.size mm ik tl fm tz vl iw (nI (RC (upd S (16 + 8 * k) 1))) (b2i (RC (upd S (16 + 8 * k) 1) = 60)) om (upd S (16 + 8 * k) 1) (PR (upd S (16 + 8 * k) 1)) j hws.1 (by rw [hws.2.2.1]; exact hj)) [0, 1, 3] rfl 0 rfl rfl rfl rfl rfl (Nat.le_of_ble_eq_true rfl) ⟨Nat.le_of_ble_eq_true rfl, Nat.le_of_ble_eq_true rfl⟩ dX7_alone_61 ⟨Nat.le_of_ble_eq_true rfl, Nat.le_of_ble_eq_true rfl⟩ (fun r_61 H8 locs8 hr_61 hP8 hS8 => ?_)
        have hD8 := hD7
        clear hP7 hD7 hS7 locs7 H7
        subst hr_61
        refine lv_iload_n hx hb dX7_alone_64 rfl (lv_at hl2 1 rfl) ?_
        refine lv_isub hx hb dX7_alone_65 ?_
        refine lv_istore (lv' := [(5, .int ((flow (upd S (16 + 8 * k) 1) (PR (upd S (16 + 8 * k) 1)) j) - (flow S (PR S) j))), (4, .int (S (16 + 8 * k))), (3, .int (flow S (PR S) j)), (0, .ref (mm 0)), (1, .int (nI j)), (2, .int (nI k))]) hx hb dX7_alone_66 hl2 (by decide) rfl (fun ls3 hl3 => ?_)
        clear hl2 ls2
        refine lv_aload_n hx hb dX7_alone_68 rfl (lv_at hl3 3 rfl) ?_
        refine lv_iconst (v := 1) hx hb dX7_alone_69 (by decide) ?_
        refine lv_iload_n hx hb dX7_alone_70 rfl (lv_at hl3 5 rfl) ?_
        refine lv_ishl hx hb dX7_alone_71 ?_
        refine tp (show (1 <<< ((nI k) &&& 31)) = nI (2 ^ k) from shl_1 (by omega)) ?_
        refine lv_iload hx hb dX7_alone_72 (lv_at hl3 1 rfl) ?_
        refine cV_v (wc := [mO cy mm ik tl fm tz vl iw (nI (RC (upd S (16 + 8 * k) 1))) (b2i (RC (upd S (16 + 8 * k) 1) = 60)) om, ia cy (mm 1) 169 (upd S (16 + 8 * k) 1)]) (wr := [ia cy (mm 4) 7 C, ia cy (mm 6) 6 (PR (upd S (16 + 8 * k) 1)), ia cy (mm 7) 6 N1_56]) (rest := []) hx hb hml hown hw hG hK hP8 hD8 hS8 hA hl3 kc_X7_shuts kw_5_154 [.int (nI (2 ^ k)), .int (S (16 + 8 * k))] (c_X7_shuts l D cy G H8.size mm ik tl fm tz vl iw (nI (RC (upd S (16 + 8 * k) 1))) (b2i (RC (upd S (16 + 8 * k) 1) = 60)) om (upd S (16 + 8 * k) 1) (2 ^ k) (S (16 + 8 * k)) hws.1 (by omega)) [0, 1] [2, 3, 4] rfl rfl rfl rfl rfl 0 rfl rfl rfl rfl rfl (Nat.le_of_ble_eq_true rfl) ⟨Nat.le_of_ble_eq_true rfl, Nat.le_of_ble_eq_true rfl⟩ dX7_alone_74 ⟨Nat.le_of_ble_eq_true rfl, Nat.le_of_ble_eq_true rfl⟩ (fun u9 H9 locs9 hu9 hP9 hD9 hS9 => ?_)
        clear hP8 hD8 hS8 locs8 H8
        replace hP9 : va_P D vwCl ([ia cy (mm 4) 7 C, ia cy (mm 6) 6 (PR (upd S (16 + 8 * k) 1)), ia cy (mm 7) 6 N1_56, mO cy mm ik tl fm tz vl iw (nI (RC (upd S (16 + 8 * k) 1))) (b2i (RC (upd S (16 + 8 * k) 1) = 60)) om, ia cy (mm 1) 169 (shS (upd S (16 + 8 * k) 1) (S (16 + 8 * k)) (2 ^ k) (gcN (upd S (16 + 8 * k) 1)))]) H9 := hP9
        replace hD9 : va_D (va_A _ sz) ([ia cy (mm 4) 7 C, ia cy (mm 6) 6 (PR (upd S (16 + 8 * k) 1)), ia cy (mm 7) 6 N1_56, mO cy mm ik tl fm tz vl iw (nI (RC (upd S (16 + 8 * k) 1))) (b2i (RC (upd S (16 + 8 * k) 1) = 60)) om, ia cy (mm 1) 169 (shS (upd S (16 + 8 * k) 1) (S (16 + 8 * k)) (2 ^ k) (gcN (upd S (16 + 8 * k) 1)))]) := hD9
        replace hP9 := hP9.sub (ws' := [mO cy mm ik tl fm tz vl iw (nI (RC (upd S (16 + 8 * k) 1))) (b2i (RC (upd S (16 + 8 * k) 1) = 60)) om, ia cy (mm 1) 169 (shS (upd S (16 + 8 * k) 1) (S (16 + 8 * k)) (2 ^ k) (gcN (upd S (16 + 8 * k) 1))), ia cy (mm 4) 7 C, ia cy (mm 6) 6 (PR (upd S (16 + 8 * k) 1)), ia cy (mm 7) 6 N1_56]) [3, 4, 0, 1, 2] rfl
        replace hD9 := hD9.sub (ws' := [mO cy mm ik tl fm tz vl iw (nI (RC (upd S (16 + 8 * k) 1))) (b2i (RC (upd S (16 + 8 * k) 1) = 60)) om, ia cy (mm 1) 169 (shS (upd S (16 + 8 * k) 1) (S (16 + 8 * k)) (2 ^ k) (gcN (upd S (16 + 8 * k) 1))), ia cy (mm 4) 7 C, ia cy (mm 6) 6 (PR (upd S (16 + 8 * k) 1)), ia cy (mm 7) 6 N1_56]) [3, 4, 0, 1, 2] (by decide) rfl
        have hq9 : ([mO cy mm ik tl fm tz vl iw (nI (RC (upd S (16 + 8 * k) 1))) (b2i (RC (upd S (16 + 8 * k) 1) = 60)) om, ia cy (mm 1) 169 (shS (upd S (16 + 8 * k) 1) (S (16 + 8 * k)) (2 ^ k) (gcN (upd S (16 + 8 * k) 1))), ia cy (mm 4) 7 C, ia cy (mm 6) 6 (PR (upd S (16 + 8 * k) 1)), ia cy (mm 7) 6 N1_56]) = ([mO cy mm ik tl fm tz vl iw (nI (RC (upd S (16 + 8 * k) 1))) (b2i (RC (upd S (16 + 8 * k) 1) = 60)) om, ia cy (mm 1) 169 S, ia cy (mm 4) 7 C, ia cy (mm 6) 6 (PR (upd S (16 + 8 * k) 1)), ia cy (mm 7) 6 N1_56]) := congrArg (fun z9 => [mO cy mm ik tl fm tz vl iw (nI (RC (upd S (16 + 8 * k) 1))) (b2i (RC (upd S (16 + 8 * k) 1) = 60)) om, ia cy (mm 1) 169 z9, ia cy (mm 4) 7 C, ia cy (mm 6) 6 (PR (upd S (16 + 8 * k) 1)), ia cy (mm 7) 6 N1_56]) (show (shS (upd S (16 + 8 * k) 1) (S (16 + 8 * k)) (2 ^ k) (gcN (upd S (16 + 8 * k) 1))) = S from (shS_one (by rw [hws.2.2.1]; exact hk)).trans ((upd_upd S _ _ _).trans (upd_back S _)))
        replace hP9 := (congrArg (fun z9 => va_P D vwCl z9 _) hq9).mp hP9
        replace hD9 := (congrArg (fun z9 => va_D _ z9) hq9).mp hD9
        clear hq9
        refine lv_iload hx hb dX7_alone_77 (lv_at hl3 0 rfl) ?_
        have hcd : cAlone S (nI j) (nI k) = 7 := by unfold cAlone; clear hx hb hml hown hr hlocks hw hsz hA hG hK hP9 hD9 hS9 hl3; grind
        have hq9 : ([mO cy mm ik tl fm tz vl iw (nI (RC (upd S (16 + 8 * k) 1))) (b2i (RC (upd S (16 + 8 * k) 1) = 60)) om, ia cy (mm 1) 169 S, ia cy (mm 4) 7 C, ia cy (mm 6) 6 (PR (upd S (16 + 8 * k) 1)), ia cy (mm 7) 6 N1_56]) = ([mO cy mm ik tl fm tz vl iw (nI (RC (upd S (16 + 8 * k) 1))) (b2i (RC (upd S (16 + 8 * k) 1) = 60)) om, ia cy (mm 1) 169 S, ia cy (mm 4) 7 (fnd C (cAlone S (nI j) (nI k))), ia cy (mm 6) 6 (PR (upd S (16 + 8 * k) 1)), ia cy (mm 7) 6 N1_56]) := congrArg (fun z9 => [mO cy mm ik tl fm tz vl iw (nI (RC (upd S (16 + 8 * k) 1))) (b2i (RC (upd S (16 + 8 * k) 1) = 60)) om, ia cy (mm 1) 169 S, ia cy (mm 4) 7 z9, ia cy (mm 6) 6 (PR (upd S (16 + 8 * k) 1)), ia cy (mm 7) 6 N1_56]) (show C = (fnd C (cAlone S (nI j) (nI k))) from fnd_o hcd)
        replace hP9 := (congrArg (fun z9 => va_P D vwCl z9 _) hq9).mp hP9
        replace hD9 := (congrArg (fun z9 => va_D _ z9) hq9).mp hD9
        clear hq9
        refine re_i (PR (upd S (16 + 8 * k) 1), N1_56, nI (RC (upd S (16 + 8 * k) 1)), b2i (RC (upd S (16 + 8 * k) 1) = 60)) hx hb hr hlocks hP9 hD9 hS9 dX7_alone_79 ?_
        exact (ans_o hcd (by rw [hbj, hbk]; rfl))
      · refine lv_aload_n hx hb dX7_alone_21 rfl (lv_at hl0 0 rfl) ?_
        refine lv_ldc (v := (-1000000001)) hx hb hown (hw _ kw_4_143) dX7_alone_22 ?_
        refine cV_i (wc := [mO cy mm ik tl fm tz vl iw rm rr om, ia cy (mm 4) 7 C]) (wr := [ia cy (mm 1) 169 S, ia cy (mm 6) 6 P, ia cy (mm 7) 6 N]) (rest := []) hx hb hml hown hw hG hK hP2 hD2 hS2 hA hl0 kc_X7_finds kw_4_139 [.int (-1000000001)] (c_X7_finds l D cy G H2.size mm ik tl fm tz vl iw rm rr om C 0 (-1000000001) (by decide) (by decide)) [0, 2] [1, 3, 4] rfl rfl rfl rfl rfl 0 rfl rfl rfl rfl rfl (Nat.le_of_ble_eq_true rfl) ⟨Nat.le_of_ble_eq_true rfl, Nat.le_of_ble_eq_true rfl⟩ dX7_alone_24 ⟨Nat.le_of_ble_eq_true rfl, Nat.le_of_ble_eq_true rfl⟩ (fun r_24 u9 H3 locs3 hu9 hP3 hD3 hS3 => ?_)
        clear hP2 hD2 hS2 locs2 H2
        have hr_24 := hu9
        replace hP3 : va_P D vwCl ([ia cy (mm 1) 169 S, ia cy (mm 6) 6 P, ia cy (mm 7) 6 N, mO cy mm ik tl fm tz vl iw rm rr om, ia cy (mm 4) 7 (upd C 0 (C 0 + 1))]) H3 := hP3
        replace hD3 : va_D (va_A _ sz) ([ia cy (mm 1) 169 S, ia cy (mm 6) 6 P, ia cy (mm 7) 6 N, mO cy mm ik tl fm tz vl iw rm rr om, ia cy (mm 4) 7 (upd C 0 (C 0 + 1))]) := hD3
        replace hP3 := hP3.sub (ws' := [mO cy mm ik tl fm tz vl iw rm rr om, ia cy (mm 1) 169 S, ia cy (mm 4) 7 (upd C 0 (C 0 + 1)), ia cy (mm 6) 6 P, ia cy (mm 7) 6 N]) [3, 0, 4, 1, 2] rfl
        replace hD3 := hD3.sub (ws' := [mO cy mm ik tl fm tz vl iw rm rr om, ia cy (mm 1) 169 S, ia cy (mm 4) 7 (upd C 0 (C 0 + 1)), ia cy (mm 6) 6 P, ia cy (mm 7) 6 N]) [3, 0, 4, 1, 2] (by decide) rfl
        subst hr_24
        have hcd : cAlone S x1 x2 = 0 := by unfold cAlone; clear hx hb hml hown hr hlocks hw hsz hA hG hK hP3 hD3 hS3 hl0; grind
        have hq9 : ([mO cy mm ik tl fm tz vl iw rm rr om, ia cy (mm 1) 169 S, ia cy (mm 4) 7 (upd C 0 (C 0 + 1)), ia cy (mm 6) 6 P, ia cy (mm 7) 6 N]) = ([mO cy mm ik tl fm tz vl iw rm rr om, ia cy (mm 1) 169 S, ia cy (mm 4) 7 (fnd C (cAlone S x1 x2)), ia cy (mm 6) 6 P, ia cy (mm 7) 6 N]) := congrArg (fun z9 => [mO cy mm ik tl fm tz vl iw rm rr om, ia cy (mm 1) 169 S, ia cy (mm 4) 7 z9, ia cy (mm 6) 6 P, ia cy (mm 7) 6 N]) (show (upd C 0 (C 0 + 1)) = (fnd C (cAlone S x1 x2)) from fnd_f hcd (by decide))
        replace hP3 := (congrArg (fun z9 => va_P D vwCl z9 _) hq9).mp hP3
        replace hD3 := (congrArg (fun z9 => va_D _ z9) hq9).mp hD3
        clear hq9
        refine re_i (P, N, rm, rr) hx hb hr hlocks hP3 hD3 hS3 dX7_alone_27 ?_
        exact (ans_f hcd (by decide) rfl)

theorem kc_X7_turns : kV yX7_turns cX7_turns 5 (some .int) 1 := ⟨kw_5_185, kw_5_186, kw_1_8, kw_5_187, by decide, by decide, by decide +kernel⟩
set_option maxHeartbeats 4000000 in
set_option maxRecDepth 100000 in
theorem c_X7_turns (l : Launch) (D : va_G) (cy : Nat → ClassId) (G : Nat → Nat) (sz : Nat) (mm : Nat → Nat) (ik : Int32) (tl : Int32) (fm : Int32) (tz : Int32) (vl : Int32) (iw : Int32) (rm : Int32) (rr : Int32) (om : Int32) (S : Nat → Int32) (C : Nat → Int32) (P : Nat → Int32) (N : Nat → Int32) (le : Nat → Int32) (x1 : Int32) (wf : wf S) : Met l yX7_turns (wm yX7_turns cX7_turns 5 (some .int)) { frames := 5, cells := 0, slots := 0, locals := 113 } (va_Pc [.ref (mm 0), .int x1] (pr D (TY cy) G ([mO cy mm ik tl fm tz vl iw rm rr om, ia cy (mm 1) 169 S, ia cy (mm 4) 7 C, ia cy (mm 6) 6 P, ia cy (mm 7) 6 N, ia cy (mm 10) 20 le]) sz)) (va_Qi (fun (r : Int32) (u : (Nat → Int32) × (Nat → Int32) × Int32 × Int32 × (Nat → Int32)) => r = ans (cG S x1) (vTurns S (bstN x1))) (fun (u : (Nat → Int32) × (Nat → Int32) × Int32 × Int32 × (Nat → Int32)) t => po D (va_A ([mO cy mm ik tl fm tz vl iw rm rr om, ia cy (mm 1) 169 S, ia cy (mm 4) 7 C, ia cy (mm 6) 6 P, ia cy (mm 7) 6 N, ia cy (mm 10) 20 le]) sz) ([mO cy mm ik tl fm tz vl iw u.2.2.1 u.2.2.2.1 om, ia cy (mm 1) 169 S, ia cy (mm 4) 7 (fnd C (cG S x1)), ia cy (mm 6) 6 u.1, ia cy (mm 7) 6 u.2.1, ia cy (mm 10) 20 u.2.2.2.2]) t) (va_A ([mO cy mm ik tl fm tz vl iw rm rr om, ia cy (mm 1) 169 S, ia cy (mm 4) 7 C, ia cy (mm 6) 6 P, ia cy (mm 7) 6 N, ia cy (mm 10) 20 le]) sz)) 0 0 (va_A ([mO cy mm ik tl fm tz vl iw rm rr om, ia cy (mm 1) 169 S, ia cy (mm 4) 7 C, ia cy (mm 6) 6 P, ia cy (mm 7) 6 N, ia cy (mm 10) 20 le]) sz) := by
  refine mk_rw (by decide) RX7 rfl (Nat.le_of_ble_eq_true rfl) [(0, .ref (mm 0)), (1, .int x1)] rfl ?_
  intro p e s m below meth c hx hb hml hown hr hlocks hin hw hsz hA hG hK H0 locs0 hP0 hD0 hS0 ls0 hl0
  clear hin
  have hg20 := wf_g20 wf
  have hr6 := wf_r6 wf
  refine lv_aload_n hx hb dX7_turns_0 rfl (lv_at hl0 0 rfl) ?_
  refine lv_iload_n hx hb dX7_turns_1 rfl (lv_at hl0 1 rfl) ?_
  refine rV_i (wc := [mO cy mm ik tl fm tz vl iw rm rr om, ia cy (mm 1) 169 S]) (rest := []) hx hb hml hown hw hG hK hP0 hS0 hA hl0 kc_X7_isGap kw_4_169 [.int x1] (c_X7_isGap l D cy G H0.size mm ik tl fm tz vl iw rm rr om S x1 (by first | omega | assumption)) [0, 1] rfl 0 rfl rfl rfl rfl rfl (Nat.le_of_ble_eq_true rfl) ⟨Nat.le_of_ble_eq_true rfl, Nat.le_of_ble_eq_true rfl⟩ dX7_turns_2 ⟨Nat.le_of_ble_eq_true rfl, Nat.le_of_ble_eq_true rfl⟩ (fun r_2 H1 locs1 hr_2 hP1 hS1 => ?_)
  have hD1 := hD0
  clear hP0 hD0 hS0 locs0 H0
  subst hr_2
  refine lb_ne (tgt := 15) hx hb dX7_turns_5 (by decide) (fun c_5 => ?_) (fun c_5 => ?_)
  · obtain ⟨j, hj, rfl⟩ := wf_gap wf c_5
    have hbj : bstN (nI j) = j := bst_n (by omega)
    have hp2 : 2 ^ j ≤ 2 ^ 20 := Nat.pow_le_pow_right (by decide) (by omega)
    have hws := wf_sh wf (j := j) (x := 1) (by omega) (Or.inr rfl)
    refine lv_aload_n hx hb dX7_turns_15 rfl (lv_at hl0 0 rfl) ?_
    refine cV_v (wc := [mO cy mm ik tl fm tz vl iw rm rr om, ia cy (mm 1) 169 S, ia cy (mm 6) 6 P, ia cy (mm 7) 6 N]) (wr := [ia cy (mm 4) 7 C, ia cy (mm 10) 20 le]) (rest := []) hx hb hml hown hw hG hK hP1 hD1 hS1 hA hl0 kc_X7_rests kw_5_57 [] (c_X7_rests l D cy G H1.size mm ik tl fm tz vl iw rm rr om S P N (by first | omega | assumption)) [0, 1, 3, 4] [2, 5] rfl rfl rfl rfl rfl 0 rfl rfl rfl rfl rfl (Nat.le_of_ble_eq_true rfl) ⟨Nat.le_of_ble_eq_true rfl, Nat.le_of_ble_eq_true rfl⟩ dX7_turns_16 ⟨Nat.le_of_ble_eq_true rfl, Nat.le_of_ble_eq_true rfl⟩ (fun u9 H2 locs2 hu9 hP2 hD2 hS2 => ?_)
    clear hP1 hD1 hS1 locs1 H1
    obtain ⟨N1_16, rfl⟩ : ∃ z9, z9 = u9 := ⟨_, rfl⟩
    replace hP2 : va_P D vwCl ([ia cy (mm 4) 7 C, ia cy (mm 10) 20 le, mO cy mm ik tl fm tz vl iw (nI (RC S)) (b2i (RC S = 60)) om, ia cy (mm 1) 169 S, ia cy (mm 6) 6 (PR S), ia cy (mm 7) 6 N1_16]) H2 := hP2
    replace hD2 : va_D (va_A _ sz) ([ia cy (mm 4) 7 C, ia cy (mm 10) 20 le, mO cy mm ik tl fm tz vl iw (nI (RC S)) (b2i (RC S = 60)) om, ia cy (mm 1) 169 S, ia cy (mm 6) 6 (PR S), ia cy (mm 7) 6 N1_16]) := hD2
    replace hP2 := hP2.sub (ws' := [mO cy mm ik tl fm tz vl iw (nI (RC S)) (b2i (RC S = 60)) om, ia cy (mm 1) 169 S, ia cy (mm 4) 7 C, ia cy (mm 6) 6 (PR S), ia cy (mm 7) 6 N1_16, ia cy (mm 10) 20 le]) [2, 3, 0, 4, 5, 1] rfl
    replace hD2 := hD2.sub (ws' := [mO cy mm ik tl fm tz vl iw (nI (RC S)) (b2i (RC S = 60)) om, ia cy (mm 1) 169 S, ia cy (mm 4) 7 C, ia cy (mm 6) 6 (PR S), ia cy (mm 7) 6 N1_16, ia cy (mm 10) 20 le]) [2, 3, 0, 4, 5, 1] (by decide) rfl
    refine lv_iconst (v := 0) hx hb dX7_turns_19 (by decide) ?_
    refine lv_istore_n (lv' := [(2, .int 0), (0, .ref (mm 0)), (1, .int (nI j))]) hx hb dX7_turns_20 rfl hl0 (by decide) rfl (fun ls1 hl1 => ?_)
    clear hl0 ls0
    have hq9 : ([mO cy mm ik tl fm tz vl iw (nI (RC S)) (b2i (RC S = 60)) om, ia cy (mm 1) 169 S, ia cy (mm 4) 7 C, ia cy (mm 6) 6 (PR S), ia cy (mm 7) 6 N1_16, ia cy (mm 10) 20 le]) = ([mO cy mm ik tl fm tz vl iw (nI (RC S)) (b2i (RC S = 60)) om, ia cy (mm 1) 169 S, ia cy (mm 4) 7 C, ia cy (mm 6) 6 (PR S), ia cy (mm 7) 6 N1_16, ia cy (mm 10) 20 (fil (fun g => lean (flow S (PR S) g)) le 0)]) := congrArg (fun z9 => [mO cy mm ik tl fm tz vl iw (nI (RC S)) (b2i (RC S = 60)) om, ia cy (mm 1) 169 S, ia cy (mm 4) 7 C, ia cy (mm 6) 6 (PR S), ia cy (mm 7) 6 N1_16, ia cy (mm 10) 20 z9]) (show le = (fil (fun g => lean (flow S (PR S) g)) le 0) from fil_0 _ le)
    replace hP2 := (congrArg (fun z9 => va_P D vwCl z9 _) hq9).mp hP2
    replace hD2 := (congrArg (fun z9 => va_D _ z9) hq9).mp hD2
    clear hq9
    refine wlp (ι := Nat) (nL := 5) (fun x9 => (x9 ≤ gcN S)) (fun x9 => [mO cy mm ik tl fm tz vl iw (nI (RC S)) (b2i (RC S = 60)) om, ia cy (mm 1) 169 S, ia cy (mm 4) 7 C, ia cy (mm 6) 6 (PR S), ia cy (mm 7) 6 N1_16, ia cy (mm 10) 20 (fil (fun g => lean (flow S (PR S) g)) le x9)]) (fun x9 => [(2, .int (nI x9)), (0, .ref (mm 0)), (1, .int (nI j))]) (fun x9 => []) (fun x9 => gcN S - x9) 21 ?_ 0 (by first | omega | assumption | rfl | simp_all) rfl hP2 hD2 hS2 (lv_sub hl1 [0, 1, 2] rfl)
    clear hP2 hD2 hS2 locs2 H2 hl1 ls1
    intro x9 hI ih_21 H3 locs3 ls2 hP3 hD3 hS3 hl2
    obtain ⟨i, rfl⟩ : ∃ z9, z9 = x9 := ⟨_, rfl⟩
    have hi := hI
    replace hi : i ≤ gcN S := hi
    replace hP3 : va_P D vwCl ([mO cy mm ik tl fm tz vl iw (nI (RC S)) (b2i (RC S = 60)) om, ia cy (mm 1) 169 S, ia cy (mm 4) 7 C, ia cy (mm 6) 6 (PR S), ia cy (mm 7) 6 N1_16, ia cy (mm 10) 20 (fil (fun g => lean (flow S (PR S) g)) le i)]) H3 := hP3
    replace hD3 : va_D (va_A _ sz) ([mO cy mm ik tl fm tz vl iw (nI (RC S)) (b2i (RC S = 60)) om, ia cy (mm 1) 169 S, ia cy (mm 4) 7 C, ia cy (mm 6) 6 (PR S), ia cy (mm 7) 6 N1_16, ia cy (mm 10) 20 (fil (fun g => lean (flow S (PR S) g)) le i)]) := hD3
    replace hl2 : lv_has ls2 5 [(2, .int (nI i)), (0, .ref (mm 0)), (1, .int (nI j))] := hl2
    show W p l e _ s m _ below meth c _ _ _ _ _ (F0 m 21 ls2 [])
    refine lv_iload_n hx hb dX7_turns_21 rfl (lv_at hl2 0 rfl) ?_
    refine lv_aload_n hx hb dX7_turns_22 rfl (lv_at hl2 1 rfl) ?_
    refine va_get (D := D) (ci := 7) (v := .ref (mm 1)) (C := RX7) (T := TX7) (N := 23) hx hb hw iX7 hown hK hP3 0 rfl rfl 0 (by decide) (hw _ kw_4_64) (fun _ h9 => h9) rfl dX7_turns_23 ?_
    refine lv_iconst (v := 1) hx hb dX7_turns_26 (by decide) ?_
    refine ald_i (f := S) hx hb hK hP3 1 0 rfl rfl 1 rfl (by first | omega | assumption) (by decide) dX7_turns_27 ?_
    refine tp (show (S 1) = nI (gcN S) from wf_g wf) ?_
    refine ln_ge (tgt := 48) i (gcN S) rfl rfl (by omega) (by omega) hx hb dX7_turns_28 (by decide) (fun c_28 => ?_) (fun c_28 => ?_)
    · obtain rfl : i = gcN S := (by omega)
      refine lv_aload_n hx hb dX7_turns_48 rfl (lv_at hl2 1 rfl) ?_
      refine lv_iload_n hx hb dX7_turns_49 rfl (lv_at hl2 2 rfl) ?_
      refine lv_bipush (v := 7) hx hb dX7_turns_50 (by decide) ?_
      refine rV_i (wc := [mO cy mm ik tl fm tz vl iw (nI (RC S)) (b2i (RC S = 60)) om, ia cy (mm 1) 169 S]) (rest := []) hx hb hml hown hw hG hK hP3 hS3 hA hl2 kc_X7_has kw_4_174 [.int (nI j), .int 7] (c_X7_has l D cy G H3.size mm ik tl fm tz vl iw (nI (RC S)) (b2i (RC S = 60)) om S j 7 (by first | omega | assumption) (by first | omega | assumption)) [0, 1] rfl 0 rfl rfl rfl rfl rfl (Nat.le_of_ble_eq_true rfl) ⟨Nat.le_of_ble_eq_true rfl, Nat.le_of_ble_eq_true rfl⟩ dX7_turns_52 ⟨Nat.le_of_ble_eq_true rfl, Nat.le_of_ble_eq_true rfl⟩ (fun r_52 H4 locs4 hr_52 hP4 hS4 => ?_)
      have hD4 := hD3
      clear hP3 hD3 hS3 locs3 H3
      subst hr_52
      refine tp (show (S (9 + 8 * j + 7)) = S (16 + 8 * j) from congrArg _ (by omega)) ?_
      refine lv_istore_n (lv' := [(2, .int (S (16 + 8 * j))), (0, .ref (mm 0)), (1, .int (nI j))]) hx hb dX7_turns_55 rfl hl2 (by decide) rfl (fun ls3 hl3 => ?_)
      clear hl2 ls2
      refine lv_aload_n hx hb dX7_turns_56 rfl (lv_at hl3 1 rfl) ?_
      refine lv_iconst (v := 1) hx hb dX7_turns_57 (by decide) ?_
      refine lv_iload_n hx hb dX7_turns_58 rfl (lv_at hl3 2 rfl) ?_
      refine lv_ishl hx hb dX7_turns_59 ?_
      refine tp (show (1 <<< ((nI j) &&& 31)) = nI (2 ^ j) from shl_1 (by omega)) ?_
      refine lv_iconst (v := 1) hx hb dX7_turns_60 (by decide) ?_
      refine cV_v (wc := [mO cy mm ik tl fm tz vl iw (nI (RC S)) (b2i (RC S = 60)) om, ia cy (mm 1) 169 S]) (wr := [ia cy (mm 4) 7 C, ia cy (mm 6) 6 (PR S), ia cy (mm 7) 6 N1_16, ia cy (mm 10) 20 (fil (fun g => lean (flow S (PR S) g)) le (gcN S))]) (rest := []) hx hb hml hown hw hG hK hP4 hD4 hS4 hA hl3 kc_X7_shuts kw_5_154 [.int (nI (2 ^ j)), .int 1] (c_X7_shuts l D cy G H4.size mm ik tl fm tz vl iw (nI (RC S)) (b2i (RC S = 60)) om S (2 ^ j) 1 wf (by omega)) [0, 1] [2, 3, 4, 5] rfl rfl rfl rfl rfl 0 rfl rfl rfl rfl rfl (Nat.le_of_ble_eq_true rfl) ⟨Nat.le_of_ble_eq_true rfl, Nat.le_of_ble_eq_true rfl⟩ dX7_turns_61 ⟨Nat.le_of_ble_eq_true rfl, Nat.le_of_ble_eq_true rfl⟩ (fun u9 H5 locs5 hu9 hP5 hD5 hS5 => ?_)
      clear hP4 hD4 hS4 locs4 H4
      replace hP5 : va_P D vwCl ([ia cy (mm 4) 7 C, ia cy (mm 6) 6 (PR S), ia cy (mm 7) 6 N1_16, ia cy (mm 10) 20 (fil (fun g => lean (flow S (PR S) g)) le (gcN S)), mO cy mm ik tl fm tz vl iw (nI (RC S)) (b2i (RC S = 60)) om, ia cy (mm 1) 169 (shS S 1 (2 ^ j) (gcN S))]) H5 := hP5
      replace hD5 : va_D (va_A _ sz) ([ia cy (mm 4) 7 C, ia cy (mm 6) 6 (PR S), ia cy (mm 7) 6 N1_16, ia cy (mm 10) 20 (fil (fun g => lean (flow S (PR S) g)) le (gcN S)), mO cy mm ik tl fm tz vl iw (nI (RC S)) (b2i (RC S = 60)) om, ia cy (mm 1) 169 (shS S 1 (2 ^ j) (gcN S))]) := hD5
      replace hP5 := hP5.sub (ws' := [mO cy mm ik tl fm tz vl iw (nI (RC S)) (b2i (RC S = 60)) om, ia cy (mm 1) 169 (shS S 1 (2 ^ j) (gcN S)), ia cy (mm 4) 7 C, ia cy (mm 6) 6 (PR S), ia cy (mm 7) 6 N1_16, ia cy (mm 10) 20 (fil (fun g => lean (flow S (PR S) g)) le (gcN S))]) [4, 5, 0, 1, 2, 3] rfl
      replace hD5 := hD5.sub (ws' := [mO cy mm ik tl fm tz vl iw (nI (RC S)) (b2i (RC S = 60)) om, ia cy (mm 1) 169 (shS S 1 (2 ^ j) (gcN S)), ia cy (mm 4) 7 C, ia cy (mm 6) 6 (PR S), ia cy (mm 7) 6 N1_16, ia cy (mm 10) 20 (fil (fun g => lean (flow S (PR S) g)) le (gcN S))]) [4, 5, 0, 1, 2, 3] (by decide) rfl
      have hq9 : ([mO cy mm ik tl fm tz vl iw (nI (RC S)) (b2i (RC S = 60)) om, ia cy (mm 1) 169 (shS S 1 (2 ^ j) (gcN S)), ia cy (mm 4) 7 C, ia cy (mm 6) 6 (PR S), ia cy (mm 7) 6 N1_16, ia cy (mm 10) 20 (fil (fun g => lean (flow S (PR S) g)) le (gcN S))]) = ([mO cy mm ik tl fm tz vl iw (nI (RC S)) (b2i (RC S = 60)) om, ia cy (mm 1) 169 (upd S (16 + 8 * j) 1), ia cy (mm 4) 7 C, ia cy (mm 6) 6 (PR S), ia cy (mm 7) 6 N1_16, ia cy (mm 10) 20 (fil (fun g => lean (flow S (PR S) g)) le (gcN S))]) := congrArg (fun z9 => [mO cy mm ik tl fm tz vl iw (nI (RC S)) (b2i (RC S = 60)) om, ia cy (mm 1) 169 z9, ia cy (mm 4) 7 C, ia cy (mm 6) 6 (PR S), ia cy (mm 7) 6 N1_16, ia cy (mm 10) 20 (fil (fun g => lean (flow S (PR S) g)) le (gcN S))]) (show (shS S 1 (2 ^ j) (gcN S)) = (upd S (16 + 8 * j) 1) from shS_one hj)
      replace hP5 := (congrArg (fun z9 => va_P D vwCl z9 _) hq9).mp hP5
      replace hD5 := (congrArg (fun z9 => va_D _ z9) hq9).mp hD5
      clear hq9
      refine lv_aload_n hx hb dX7_turns_64 rfl (lv_at hl3 1 rfl) ?_
      refine cV_v (wc := [mO cy mm ik tl fm tz vl iw (nI (RC S)) (b2i (RC S = 60)) om, ia cy (mm 1) 169 (upd S (16 + 8 * j) 1), ia cy (mm 6) 6 (PR S), ia cy (mm 7) 6 N1_16]) (wr := [ia cy (mm 4) 7 C, ia cy (mm 10) 20 (fil (fun g => lean (flow S (PR S) g)) le (gcN S))]) (rest := []) hx hb hml hown hw hG hK hP5 hD5 hS5 hA hl3 kc_X7_rests kw_5_57 [] (c_X7_rests l D cy G H5.size mm ik tl fm tz vl iw (nI (RC S)) (b2i (RC S = 60)) om (upd S (16 + 8 * j) 1) (PR S) N1_16 hws.1) [0, 1, 3, 4] [2, 5] rfl rfl rfl rfl rfl 0 rfl rfl rfl rfl rfl (Nat.le_of_ble_eq_true rfl) ⟨Nat.le_of_ble_eq_true rfl, Nat.le_of_ble_eq_true rfl⟩ dX7_turns_65 ⟨Nat.le_of_ble_eq_true rfl, Nat.le_of_ble_eq_true rfl⟩ (fun u9 H6 locs6 hu9 hP6 hD6 hS6 => ?_)
      clear hP5 hD5 hS5 locs5 H5
      obtain ⟨N1_65, rfl⟩ : ∃ z9, z9 = u9 := ⟨_, rfl⟩
      replace hP6 : va_P D vwCl ([ia cy (mm 4) 7 C, ia cy (mm 10) 20 (fil (fun g => lean (flow S (PR S) g)) le (gcN S)), mO cy mm ik tl fm tz vl iw (nI (RC (upd S (16 + 8 * j) 1))) (b2i (RC (upd S (16 + 8 * j) 1) = 60)) om, ia cy (mm 1) 169 (upd S (16 + 8 * j) 1), ia cy (mm 6) 6 (PR (upd S (16 + 8 * j) 1)), ia cy (mm 7) 6 N1_65]) H6 := hP6
      replace hD6 : va_D (va_A _ sz) ([ia cy (mm 4) 7 C, ia cy (mm 10) 20 (fil (fun g => lean (flow S (PR S) g)) le (gcN S)), mO cy mm ik tl fm tz vl iw (nI (RC (upd S (16 + 8 * j) 1))) (b2i (RC (upd S (16 + 8 * j) 1) = 60)) om, ia cy (mm 1) 169 (upd S (16 + 8 * j) 1), ia cy (mm 6) 6 (PR (upd S (16 + 8 * j) 1)), ia cy (mm 7) 6 N1_65]) := hD6
      replace hP6 := hP6.sub (ws' := [mO cy mm ik tl fm tz vl iw (nI (RC (upd S (16 + 8 * j) 1))) (b2i (RC (upd S (16 + 8 * j) 1) = 60)) om, ia cy (mm 1) 169 (upd S (16 + 8 * j) 1), ia cy (mm 4) 7 C, ia cy (mm 6) 6 (PR (upd S (16 + 8 * j) 1)), ia cy (mm 7) 6 N1_65, ia cy (mm 10) 20 (fil (fun g => lean (flow S (PR S) g)) le (gcN S))]) [2, 3, 0, 4, 5, 1] rfl
      replace hD6 := hD6.sub (ws' := [mO cy mm ik tl fm tz vl iw (nI (RC (upd S (16 + 8 * j) 1))) (b2i (RC (upd S (16 + 8 * j) 1) = 60)) om, ia cy (mm 1) 169 (upd S (16 + 8 * j) 1), ia cy (mm 4) 7 C, ia cy (mm 6) 6 (PR (upd S (16 + 8 * j) 1)), ia cy (mm 7) 6 N1_65, ia cy (mm 10) 20 (fil (fun g => lean (flow S (PR S) g)) le (gcN S))]) [2, 3, 0, 4, 5, 1] (by decide) rfl
      refine lv_iconst (v := 0) hx hb dX7_turns_68 (by decide) ?_
      refine lv_istore_n (lv' := [(3, .int 0), (2, .int (S (16 + 8 * j))), (0, .ref (mm 0)), (1, .int (nI j))]) hx hb dX7_turns_69 rfl hl3 (by decide) rfl (fun ls4 hl4 => ?_)
      clear hl3 ls3
      refine lv_iconst (v := 0) hx hb dX7_turns_70 (by decide) ?_
      refine lv_istore (lv' := [(4, .int 0), (3, .int 0), (2, .int (S (16 + 8 * j))), (0, .ref (mm 0)), (1, .int (nI j))]) hx hb dX7_turns_71 hl4 (by decide) rfl (fun ls5 hl5 => ?_)
      clear hl4 ls4
      have hq9 : trn (flow S (PR S)) (flow (upd S (16 + 8 * j) 1) (PR (upd S (16 + 8 * j) 1))) 0 = 0 := rfl
      replace hl5 : lv_has ls5 5 [(4, .int 0), (3, .int (trn (flow S (PR S)) (flow (upd S (16 + 8 * j) 1) (PR (upd S (16 + 8 * j) 1))) 0)), (2, .int (S (16 + 8 * j))), (0, .ref (mm 0)), (1, .int (nI j))] := (congrArg (fun z9 => lv_has ls5 5 [(4, .int 0), (3, .int z9), (2, .int (S (16 + 8 * j))), (0, .ref (mm 0)), (1, .int (nI j))]) hq9).mpr hl5
      clear hq9
      refine wlp (ι := Nat) (nL := 5) (fun x9 => (x9 ≤ gcN S)) (fun x9 => [mO cy mm ik tl fm tz vl iw (nI (RC (upd S (16 + 8 * j) 1))) (b2i (RC (upd S (16 + 8 * j) 1) = 60)) om, ia cy (mm 1) 169 (upd S (16 + 8 * j) 1), ia cy (mm 4) 7 C, ia cy (mm 6) 6 (PR (upd S (16 + 8 * j) 1)), ia cy (mm 7) 6 N1_65, ia cy (mm 10) 20 (fil (fun g => lean (flow S (PR S) g)) le (gcN S))]) (fun x9 => [(4, .int (nI x9)), (3, .int (trn (flow S (PR S)) (flow (upd S (16 + 8 * j) 1) (PR (upd S (16 + 8 * j) 1))) x9)), (2, .int (S (16 + 8 * j))), (0, .ref (mm 0)), (1, .int (nI j))]) (fun x9 => []) (fun x9 => gcN S - x9) 73 ?_ 0 (by first | omega | assumption | rfl | simp_all) rfl hP6 hD6 hS6 (lv_sub hl5 [0, 1, 2, 3, 4] rfl)
      clear hP6 hD6 hS6 locs6 H6 hl5 ls5
      intro x9 hI ih_73 H7 locs7 ls6 hP7 hD7 hS7 hl6
      obtain ⟨i, rfl⟩ : ∃ z9, z9 = x9 := ⟨_, rfl⟩
      have hi := hI
      replace hi : i ≤ gcN S := hi
      replace hP7 : va_P D vwCl ([mO cy mm ik tl fm tz vl iw (nI (RC (upd S (16 + 8 * j) 1))) (b2i (RC (upd S (16 + 8 * j) 1) = 60)) om, ia cy (mm 1) 169 (upd S (16 + 8 * j) 1), ia cy (mm 4) 7 C, ia cy (mm 6) 6 (PR (upd S (16 + 8 * j) 1)), ia cy (mm 7) 6 N1_65, ia cy (mm 10) 20 (fil (fun g => lean (flow S (PR S) g)) le (gcN S))]) H7 := hP7
      replace hD7 : va_D (va_A _ sz) ([mO cy mm ik tl fm tz vl iw (nI (RC (upd S (16 + 8 * j) 1))) (b2i (RC (upd S (16 + 8 * j) 1) = 60)) om, ia cy (mm 1) 169 (upd S (16 + 8 * j) 1), ia cy (mm 4) 7 C, ia cy (mm 6) 6 (PR (upd S (16 + 8 * j) 1)), ia cy (mm 7) 6 N1_65, ia cy (mm 10) 20 (fil (fun g => lean (flow S (PR S) g)) le (gcN S))]) := hD7
      replace hl6 : lv_has ls6 5 [(4, .int (nI i)), (3, .int (trn (flow S (PR S)) (flow (upd S (16 + 8 * j) 1) (PR (upd S (16 + 8 * j) 1))) i)), (2, .int (S (16 + 8 * j))), (0, .ref (mm 0)), (1, .int (nI j))] := hl6
      show W p l e _ s m _ below meth c _ _ _ _ _ (F0 m 73 ls6 [])
      refine lv_iload hx hb dX7_turns_73 (lv_at hl6 0 rfl) ?_
      refine lv_aload_n hx hb dX7_turns_75 rfl (lv_at hl6 3 rfl) ?_
      refine va_get (D := D) (ci := 7) (v := .ref (mm 1)) (C := RX7) (T := TX7) (N := 23) hx hb hw iX7 hown hK hP7 0 rfl rfl 0 (by decide) (hw _ kw_4_64) (fun _ h9 => h9) rfl dX7_turns_76 ?_
      refine lv_iconst (v := 1) hx hb dX7_turns_79 (by decide) ?_
      refine ald_i (f := upd S (16 + 8 * j) 1) hx hb hK hP7 1 0 rfl rfl 1 rfl (by first | omega | assumption) (by decide) dX7_turns_80 ?_
      refine tp (show ((upd S (16 + 8 * j) 1) 1) = nI (gcN S) from (upd_n (by omega)).trans (wf_g wf)) ?_
      refine ln_ge (tgt := 118) i (gcN S) rfl rfl (by omega) (by omega) hx hb dX7_turns_81 (by decide) (fun c_81 => ?_) (fun c_81 => ?_)
      · obtain rfl : i = gcN S := (by omega)
        refine lv_aload_n hx hb dX7_turns_118 rfl (lv_at hl6 3 rfl) ?_
        refine lv_iconst (v := 1) hx hb dX7_turns_119 (by decide) ?_
        refine lv_iload_n hx hb dX7_turns_120 rfl (lv_at hl6 4 rfl) ?_
        refine lv_ishl hx hb dX7_turns_121 ?_
        refine tp (show (1 <<< ((nI j) &&& 31)) = nI (2 ^ j) from shl_1 (by omega)) ?_
        refine lv_iload_n hx hb dX7_turns_122 rfl (lv_at hl6 2 rfl) ?_
        refine cV_v (wc := [mO cy mm ik tl fm tz vl iw (nI (RC (upd S (16 + 8 * j) 1))) (b2i (RC (upd S (16 + 8 * j) 1) = 60)) om, ia cy (mm 1) 169 (upd S (16 + 8 * j) 1)]) (wr := [ia cy (mm 4) 7 C, ia cy (mm 6) 6 (PR (upd S (16 + 8 * j) 1)), ia cy (mm 7) 6 N1_65, ia cy (mm 10) 20 (fil (fun g => lean (flow S (PR S) g)) le (gcN S))]) (rest := []) hx hb hml hown hw hG hK hP7 hD7 hS7 hA hl6 kc_X7_shuts kw_5_154 [.int (nI (2 ^ j)), .int (S (16 + 8 * j))] (c_X7_shuts l D cy G H7.size mm ik tl fm tz vl iw (nI (RC (upd S (16 + 8 * j) 1))) (b2i (RC (upd S (16 + 8 * j) 1) = 60)) om (upd S (16 + 8 * j) 1) (2 ^ j) (S (16 + 8 * j)) hws.1 (by omega)) [0, 1] [2, 3, 4, 5] rfl rfl rfl rfl rfl 0 rfl rfl rfl rfl rfl (Nat.le_of_ble_eq_true rfl) ⟨Nat.le_of_ble_eq_true rfl, Nat.le_of_ble_eq_true rfl⟩ dX7_turns_123 ⟨Nat.le_of_ble_eq_true rfl, Nat.le_of_ble_eq_true rfl⟩ (fun u9 H8 locs8 hu9 hP8 hD8 hS8 => ?_)
        clear hP7 hD7 hS7 locs7 H7
        replace hP8 : va_P D vwCl ([ia cy (mm 4) 7 C, ia cy (mm 6) 6 (PR (upd S (16 + 8 * j) 1)), ia cy (mm 7) 6 N1_65, ia cy (mm 10) 20 (fil (fun g => lean (flow S (PR S) g)) le (gcN S)), mO cy mm ik tl fm tz vl iw (nI (RC (upd S (16 + 8 * j) 1))) (b2i (RC (upd S (16 + 8 * j) 1) = 60)) om, ia cy (mm 1) 169 (shS (upd S (16 + 8 * j) 1) (S (16 + 8 * j)) (2 ^ j) (gcN (upd S (16 + 8 * j) 1)))]) H8 := hP8
        replace hD8 : va_D (va_A _ sz) ([ia cy (mm 4) 7 C, ia cy (mm 6) 6 (PR (upd S (16 + 8 * j) 1)), ia cy (mm 7) 6 N1_65, ia cy (mm 10) 20 (fil (fun g => lean (flow S (PR S) g)) le (gcN S)), mO cy mm ik tl fm tz vl iw (nI (RC (upd S (16 + 8 * j) 1))) (b2i (RC (upd S (16 + 8 * j) 1) = 60)) om, ia cy (mm 1) 169 (shS (upd S (16 + 8 * j) 1) (S (16 + 8 * j)) (2 ^ j) (gcN (upd S (16 + 8 * j) 1)))]) := hD8
        replace hP8 := hP8.sub (ws' := [mO cy mm ik tl fm tz vl iw (nI (RC (upd S (16 + 8 * j) 1))) (b2i (RC (upd S (16 + 8 * j) 1) = 60)) om, ia cy (mm 1) 169 (shS (upd S (16 + 8 * j) 1) (S (16 + 8 * j)) (2 ^ j) (gcN (upd S (16 + 8 * j) 1))), ia cy (mm 4) 7 C, ia cy (mm 6) 6 (PR (upd S (16 + 8 * j) 1)), ia cy (mm 7) 6 N1_65, ia cy (mm 10) 20 (fil (fun g => lean (flow S (PR S) g)) le (gcN S))]) [4, 5, 0, 1, 2, 3] rfl
        replace hD8 := hD8.sub (ws' := [mO cy mm ik tl fm tz vl iw (nI (RC (upd S (16 + 8 * j) 1))) (b2i (RC (upd S (16 + 8 * j) 1) = 60)) om, ia cy (mm 1) 169 (shS (upd S (16 + 8 * j) 1) (S (16 + 8 * j)) (2 ^ j) (gcN (upd S (16 + 8 * j) 1))), ia cy (mm 4) 7 C, ia cy (mm 6) 6 (PR (upd S (16 + 8 * j) 1)), ia cy (mm 7) 6 N1_65, ia cy (mm 10) 20 (fil (fun g => lean (flow S (PR S) g)) le (gcN S))]) [4, 5, 0, 1, 2, 3] (by decide) rfl
        have hq9 : ([mO cy mm ik tl fm tz vl iw (nI (RC (upd S (16 + 8 * j) 1))) (b2i (RC (upd S (16 + 8 * j) 1) = 60)) om, ia cy (mm 1) 169 (shS (upd S (16 + 8 * j) 1) (S (16 + 8 * j)) (2 ^ j) (gcN (upd S (16 + 8 * j) 1))), ia cy (mm 4) 7 C, ia cy (mm 6) 6 (PR (upd S (16 + 8 * j) 1)), ia cy (mm 7) 6 N1_65, ia cy (mm 10) 20 (fil (fun g => lean (flow S (PR S) g)) le (gcN S))]) = ([mO cy mm ik tl fm tz vl iw (nI (RC (upd S (16 + 8 * j) 1))) (b2i (RC (upd S (16 + 8 * j) 1) = 60)) om, ia cy (mm 1) 169 S, ia cy (mm 4) 7 C, ia cy (mm 6) 6 (PR (upd S (16 + 8 * j) 1)), ia cy (mm 7) 6 N1_65, ia cy (mm 10) 20 (fil (fun g => lean (flow S (PR S) g)) le (gcN S))]) := congrArg (fun z9 => [mO cy mm ik tl fm tz vl iw (nI (RC (upd S (16 + 8 * j) 1))) (b2i (RC (upd S (16 + 8 * j) 1) = 60)) om, ia cy (mm 1) 169 z9, ia cy (mm 4) 7 C, ia cy (mm 6) 6 (PR (upd S (16 + 8 * j) 1)), ia cy (mm 7) 6 N1_65, ia cy (mm 10) 20 (fil (fun g => lean (flow S (PR S) g)) le (gcN S))]) (show (shS (upd S (16 + 8 * j) 1) (S (16 + 8 * j)) (2 ^ j) (gcN (upd S (16 + 8 * j) 1))) = S from (shS_one (by rw [hws.2.2.1]; exact hj)).trans ((upd_upd S _ _ _).trans (upd_back S _)))
        replace hP8 := (congrArg (fun z9 => va_P D vwCl z9 _) hq9).mp hP8
        replace hD8 := (congrArg (fun z9 => va_D _ z9) hq9).mp hD8
        clear hq9
        refine lv_iload_n hx hb dX7_turns_126 rfl (lv_at hl6 1 rfl) ?_
        have hcd : cG S (nI j) = 7 := by unfold cG; clear hx hb hml hown hr hlocks hw hsz hA hG hK hP8 hD8 hS8 hl6 ih_21 ih_73; grind
        have hq9 : ([mO cy mm ik tl fm tz vl iw (nI (RC (upd S (16 + 8 * j) 1))) (b2i (RC (upd S (16 + 8 * j) 1) = 60)) om, ia cy (mm 1) 169 S, ia cy (mm 4) 7 C, ia cy (mm 6) 6 (PR (upd S (16 + 8 * j) 1)), ia cy (mm 7) 6 N1_65, ia cy (mm 10) 20 (fil (fun g => lean (flow S (PR S) g)) le (gcN S))]) = ([mO cy mm ik tl fm tz vl iw (nI (RC (upd S (16 + 8 * j) 1))) (b2i (RC (upd S (16 + 8 * j) 1) = 60)) om, ia cy (mm 1) 169 S, ia cy (mm 4) 7 (fnd C (cG S (nI j))), ia cy (mm 6) 6 (PR (upd S (16 + 8 * j) 1)), ia cy (mm 7) 6 N1_65, ia cy (mm 10) 20 (fil (fun g => lean (flow S (PR S) g)) le (gcN S))]) := congrArg (fun z9 => [mO cy mm ik tl fm tz vl iw (nI (RC (upd S (16 + 8 * j) 1))) (b2i (RC (upd S (16 + 8 * j) 1) = 60)) om, ia cy (mm 1) 169 S, ia cy (mm 4) 7 z9, ia cy (mm 6) 6 (PR (upd S (16 + 8 * j) 1)), ia cy (mm 7) 6 N1_65, ia cy (mm 10) 20 (fil (fun g => lean (flow S (PR S) g)) le (gcN S))]) (show C = (fnd C (cG S (nI j))) from fnd_o hcd)
        replace hP8 := (congrArg (fun z9 => va_P D vwCl z9 _) hq9).mp hP8
        replace hD8 := (congrArg (fun z9 => va_D _ z9) hq9).mp hD8
        clear hq9
        refine re_i (PR (upd S (16 + 8 * j) 1), N1_65, nI (RC (upd S (16 + 8 * j) 1)), b2i (RC (upd S (16 + 8 * j) 1) = 60), fil (fun g => lean (flow S (PR S) g)) le (gcN S)) hx hb hr hlocks hP8 hD8 hS8 dX7_turns_127 ?_
        exact (ans_o hcd (by rw [hbj]; rfl))
      · refine lv_iload_n hx hb dX7_turns_84 rfl (lv_at hl6 1 rfl) ?_
        refine lv_aload_n hx hb dX7_turns_85 rfl (lv_at hl6 3 rfl) ?_
        refine va_get (D := D) (ci := 7) (v := .ref (mm 10)) (C := RX7) (T := TX7) (N := 23) hx hb hw iX7 hown hK hP7 0 rfl rfl 18 (by decide) (hw _ kw_4_82) (fun _ h9 => h9) rfl dX7_turns_86 ?_
        refine lv_iload hx hb dX7_turns_89 (lv_at hl6 0 rfl) ?_
        refine ald_i (f := fil (fun g => lean (flow S (PR S) g)) le (gcN S)) hx hb hK hP7 5 0 rfl rfl i rfl (by first | omega | assumption) (by decide) dX7_turns_91 ?_
        refine tp (show ((fil (fun g => lean (flow S (PR S) g)) le (gcN S)) i) = lean (flow S (PR S) i) from fil_in (by omega)) ?_
        refine lv_aload_n hx hb dX7_turns_92 rfl (lv_at hl6 3 rfl) ?_
        refine lv_iload hx hb dX7_turns_93 (lv_at hl6 0 rfl) ?_
        refine rV_i (wc := [mO cy mm ik tl fm tz vl iw (nI (RC (upd S (16 + 8 * j) 1))) (b2i (RC (upd S (16 + 8 * j) 1) = 60)) om, ia cy (mm 1) 169 (upd S (16 + 8 * j) 1), ia cy (mm 6) 6 (PR (upd S (16 + 8 * j) 1))]) (rest := [.int (lean (flow S (PR S) i)), .int (trn (flow S (PR S)) (flow (upd S (16 + 8 * j) 1) (PR (upd S (16 + 8 * j) 1))) i)]) hx hb hml hown hw hG hK hP7 hS7 hA hl6 kc_X7_leanOf kw_5_81 [.int (nI i)] (c_X7_leanOf l D cy G H7.size mm ik tl fm tz vl iw (nI (RC (upd S (16 + 8 * j) 1))) (b2i (RC (upd S (16 + 8 * j) 1) = 60)) om (upd S (16 + 8 * j) 1) (PR (upd S (16 + 8 * j) 1)) i hws.1 (by rw [hws.2.2.1]; omega)) [0, 1, 3] rfl 0 rfl rfl rfl rfl rfl (Nat.le_of_ble_eq_true rfl) ⟨Nat.le_of_ble_eq_true rfl, Nat.le_of_ble_eq_true rfl⟩ dX7_turns_95 ⟨Nat.le_of_ble_eq_true rfl, Nat.le_of_ble_eq_true rfl⟩ (fun r_95 H8 locs8 hr_95 hP8 hS8 => ?_)
        have hD8 := hD7
        clear hP7 hD7 hS7 locs7 H7
        subst hr_95
        refine lv_imul hx hb dX7_turns_98 ?_
        refine lv_if_ge (tgt := 109) hx hb dX7_turns_99 (by decide) (fun c_99 => ?_) (fun c_99 => ?_)
        · refine lv_iconst (v := 0) hx hb dX7_turns_109 (by decide) ?_
          refine lv_ior hx hb dX7_turns_110 ?_
          refine lv_istore_n (lv' := [(3, .int ((trn (flow S (PR S)) (flow (upd S (16 + 8 * j) 1) (PR (upd S (16 + 8 * j) 1))) i) ||| 0)), (4, .int (nI i)), (2, .int (S (16 + 8 * j))), (0, .ref (mm 0)), (1, .int (nI j))]) hx hb dX7_turns_111 rfl hl6 (by decide) rfl (fun ls7 hl7 => ?_)
          clear hl6 ls6
          have hq9 : trn (flow S (PR S)) (flow (upd S (16 + 8 * j) 1) (PR (upd S (16 + 8 * j) 1))) (i + 1) = (trn (flow S (PR S)) (flow (upd S (16 + 8 * j) 1) (PR (upd S (16 + 8 * j) 1))) i) ||| 0 := by clear hx hb hml hown hr hlocks hw hsz hA hG hK hP8 hD8 hS8 hl7 ih_21 ih_73; grind [trn, or_0]
          replace hl7 : lv_has ls7 5 [(3, .int (trn (flow S (PR S)) (flow (upd S (16 + 8 * j) 1) (PR (upd S (16 + 8 * j) 1))) (i + 1))), (4, .int (nI i)), (2, .int (S (16 + 8 * j))), (0, .ref (mm 0)), (1, .int (nI j))] := (congrArg (fun z9 => lv_has ls7 5 [(3, .int z9), (4, .int (nI i)), (2, .int (S (16 + 8 * j))), (0, .ref (mm 0)), (1, .int (nI j))]) hq9).mpr hl7
          clear hq9
          refine lv_iinc (v := nI (i + 1)) (lv' := [(4, .int (nI (i + 1))), (3, .int (trn (flow S (PR S)) (flow (upd S (16 + 8 * j) 1) (PR (upd S (16 + 8 * j) 1))) (i + 1))), (2, .int (S (16 + 8 * j))), (0, .ref (mm 0)), (1, .int (nI j))]) hx hb dX7_turns_112 hl7 (k := 1) rfl (nI_inc _) (by decide) rfl (fun ls8 hl8 => ?_)
          clear hl7 ls7
          refine lv_goto (tgt := 73) hx hb dX7_turns_115 (by decide) ?_
          exact ih_73 (i + 1) (by first | omega | assumption | rfl | simp_all) (by (try dsimp only); omega) H8 locs8 ls8 hP8 hD8 hS8 (lv_sub hl8 [0, 1, 2, 3, 4] rfl)
        · refine lv_iconst (v := 1) hx hb dX7_turns_102 (by decide) ?_
          refine lv_iload hx hb dX7_turns_103 (lv_at hl6 0 rfl) ?_
          refine lv_ishl hx hb dX7_turns_105 ?_
          refine lv_goto (tgt := 110) hx hb dX7_turns_106 (by decide) ?_
          refine lv_ior hx hb dX7_turns_110 ?_
          refine lv_istore_n (lv' := [(3, .int ((trn (flow S (PR S)) (flow (upd S (16 + 8 * j) 1) (PR (upd S (16 + 8 * j) 1))) i) ||| (1 <<< ((nI i) &&& 31)))), (4, .int (nI i)), (2, .int (S (16 + 8 * j))), (0, .ref (mm 0)), (1, .int (nI j))]) hx hb dX7_turns_111 rfl hl6 (by decide) rfl (fun ls7 hl7 => ?_)
          clear hl6 ls6
          have hq9 : trn (flow S (PR S)) (flow (upd S (16 + 8 * j) 1) (PR (upd S (16 + 8 * j) 1))) (i + 1) = (trn (flow S (PR S)) (flow (upd S (16 + 8 * j) 1) (PR (upd S (16 + 8 * j) 1))) i) ||| (1 <<< ((nI i) &&& 31)) := by clear hx hb hml hown hr hlocks hw hsz hA hG hK hP8 hD8 hS8 hl7 ih_21 ih_73; grind [trn, or_0]
          replace hl7 : lv_has ls7 5 [(3, .int (trn (flow S (PR S)) (flow (upd S (16 + 8 * j) 1) (PR (upd S (16 + 8 * j) 1))) (i + 1))), (4, .int (nI i)), (2, .int (S (16 + 8 * j))), (0, .ref (mm 0)), (1, .int (nI j))] := (congrArg (fun z9 => lv_has ls7 5 [(3, .int z9), (4, .int (nI i)), (2, .int (S (16 + 8 * j))), (0, .ref (mm 0)), (1, .int (nI j))]) hq9).mpr hl7
          clear hq9
          refine lv_iinc (v := nI (i + 1)) (lv' := [(4, .int (nI (i + 1))), (3, .int (trn (flow S (PR S)) (flow (upd S (16 + 8 * j) 1) (PR (upd S (16 + 8 * j) 1))) (i + 1))), (2, .int (S (16 + 8 * j))), (0, .ref (mm 0)), (1, .int (nI j))]) hx hb dX7_turns_112 hl7 (k := 1) rfl (nI_inc _) (by decide) rfl (fun ls8 hl8 => ?_)
          clear hl7 ls7
          refine lv_goto (tgt := 73) hx hb dX7_turns_115 (by decide) ?_
          exact ih_73 (i + 1) (by first | omega | assumption | rfl | simp_all) (by (try dsimp only); omega) H8 locs8 ls8 hP8 hD8 hS8 (lv_sub hl8 [0, 1, 2, 3, 4] rfl)
    · refine lv_aload_n hx hb dX7_turns_31 rfl (lv_at hl2 1 rfl) ?_
      refine va_get (D := D) (ci := 7) (v := .ref (mm 10)) (C := RX7) (T := TX7) (N := 23) hx hb hw iX7 hown hK hP3 0 rfl rfl 18 (by decide) (hw _ kw_4_82) (fun _ h9 => h9) rfl dX7_turns_32 ?_
      refine lv_iload_n hx hb dX7_turns_35 rfl (lv_at hl2 0 rfl) ?_
      refine lv_aload_n hx hb dX7_turns_36 rfl (lv_at hl2 1 rfl) ?_
      refine lv_iload_n hx hb dX7_turns_37 rfl (lv_at hl2 0 rfl) ?_
      refine rV_i (wc := [mO cy mm ik tl fm tz vl iw (nI (RC S)) (b2i (RC S = 60)) om, ia cy (mm 1) 169 S, ia cy (mm 6) 6 (PR S)]) (rest := [.int (nI i), .ref (mm 10)]) hx hb hml hown hw hG hK hP3 hS3 hA hl2 kc_X7_leanOf kw_5_81 [.int (nI i)] (c_X7_leanOf l D cy G H3.size mm ik tl fm tz vl iw (nI (RC S)) (b2i (RC S = 60)) om S (PR S) i (by first | omega | assumption) (by first | omega | assumption)) [0, 1, 3] rfl 0 rfl rfl rfl rfl rfl (Nat.le_of_ble_eq_true rfl) ⟨Nat.le_of_ble_eq_true rfl, Nat.le_of_ble_eq_true rfl⟩ dX7_turns_38 ⟨Nat.le_of_ble_eq_true rfl, Nat.le_of_ble_eq_true rfl⟩ (fun r_38 H4 locs4 hr_38 hP4 hS4 => ?_)
      have hD4 := hD3
      clear hP3 hD3 hS3 locs3 H3
      subst hr_38
      refine ast_i (f := fil (fun g => lean (flow S (PR S) g)) le i) (ws' := [mO cy mm ik tl fm tz vl iw (nI (RC S)) (b2i (RC S = 60)) om, ia cy (mm 1) 169 S, ia cy (mm 4) 7 C, ia cy (mm 6) 6 (PR S), ia cy (mm 7) 6 N1_16, ia cy (mm 10) 20 (upd (fil (fun g => lean (flow S (PR S) g)) le i) i (lean (flow S (PR S) i)))]) hx hb hK hP4 hD4 hS4 5 0 rfl rfl i rfl (by first | omega | assumption) (by decide) rfl dX7_turns_41 (fun H5 locs5 hP5 hD5 hS5 => ?_)
      clear hP4 hD4 hS4 locs4 H4
      have hq9 : ([mO cy mm ik tl fm tz vl iw (nI (RC S)) (b2i (RC S = 60)) om, ia cy (mm 1) 169 S, ia cy (mm 4) 7 C, ia cy (mm 6) 6 (PR S), ia cy (mm 7) 6 N1_16, ia cy (mm 10) 20 (upd (fil (fun g => lean (flow S (PR S) g)) le i) i (lean (flow S (PR S) i)))]) = ([mO cy mm ik tl fm tz vl iw (nI (RC S)) (b2i (RC S = 60)) om, ia cy (mm 1) 169 S, ia cy (mm 4) 7 C, ia cy (mm 6) 6 (PR S), ia cy (mm 7) 6 N1_16, ia cy (mm 10) 20 (fil (fun g => lean (flow S (PR S) g)) le (i + 1))]) := congrArg (fun z9 => [mO cy mm ik tl fm tz vl iw (nI (RC S)) (b2i (RC S = 60)) om, ia cy (mm 1) 169 S, ia cy (mm 4) 7 C, ia cy (mm 6) 6 (PR S), ia cy (mm 7) 6 N1_16, ia cy (mm 10) 20 z9]) (show (upd (fil (fun g => lean (flow S (PR S) g)) le i) i (lean (flow S (PR S) i))) = (fil (fun g => lean (flow S (PR S) g)) le (i + 1)) from fil_s _ le i)
      replace hP5 := (congrArg (fun z9 => va_P D vwCl z9 _) hq9).mp hP5
      replace hD5 := (congrArg (fun z9 => va_D _ z9) hq9).mp hD5
      clear hq9
      refine lv_iinc (v := nI (i + 1)) (lv' := [(2, .int (nI (i + 1))), (0, .ref (mm 0)), (1, .int (nI j))]) hx hb dX7_turns_42 hl2 (k := 0) rfl (nI_inc _) (by decide) rfl (fun ls3 hl3 => ?_)
      clear hl2 ls2
      refine lv_goto (tgt := 21) hx hb dX7_turns_45 (by decide) ?_
      exact ih_21 (i + 1) (by first | omega | assumption | rfl | simp_all) (by (try dsimp only); omega) H5 locs5 ls3 hP5 hD5 hS5 (lv_sub hl3 [0, 1, 2] rfl)
  · refine lv_aload_n hx hb dX7_turns_8 rfl (lv_at hl0 0 rfl) ?_
    refine lv_ldc (v := (-1000000001)) hx hb hown (hw _ kw_4_143) dX7_turns_9 ?_
    refine cV_i (wc := [mO cy mm ik tl fm tz vl iw rm rr om, ia cy (mm 4) 7 C]) (wr := [ia cy (mm 1) 169 S, ia cy (mm 6) 6 P, ia cy (mm 7) 6 N, ia cy (mm 10) 20 le]) (rest := []) hx hb hml hown hw hG hK hP1 hD1 hS1 hA hl0 kc_X7_finds kw_4_139 [.int (-1000000001)] (c_X7_finds l D cy G H1.size mm ik tl fm tz vl iw rm rr om C 0 (-1000000001) (by decide) (by decide)) [0, 2] [1, 3, 4, 5] rfl rfl rfl rfl rfl 0 rfl rfl rfl rfl rfl (Nat.le_of_ble_eq_true rfl) ⟨Nat.le_of_ble_eq_true rfl, Nat.le_of_ble_eq_true rfl⟩ dX7_turns_11 ⟨Nat.le_of_ble_eq_true rfl, Nat.le_of_ble_eq_true rfl⟩ (fun r_11 u9 H2 locs2 hu9 hP2 hD2 hS2 => ?_)
    clear hP1 hD1 hS1 locs1 H1
    have hr_11 := hu9
    replace hP2 : va_P D vwCl ([ia cy (mm 1) 169 S, ia cy (mm 6) 6 P, ia cy (mm 7) 6 N, ia cy (mm 10) 20 le, mO cy mm ik tl fm tz vl iw rm rr om, ia cy (mm 4) 7 (upd C 0 (C 0 + 1))]) H2 := hP2
    replace hD2 : va_D (va_A _ sz) ([ia cy (mm 1) 169 S, ia cy (mm 6) 6 P, ia cy (mm 7) 6 N, ia cy (mm 10) 20 le, mO cy mm ik tl fm tz vl iw rm rr om, ia cy (mm 4) 7 (upd C 0 (C 0 + 1))]) := hD2
    replace hP2 := hP2.sub (ws' := [mO cy mm ik tl fm tz vl iw rm rr om, ia cy (mm 1) 169 S, ia cy (mm 4) 7 (upd C 0 (C 0 + 1)), ia cy (mm 6) 6 P, ia cy (mm 7) 6 N, ia cy (mm 10) 20 le]) [4, 0, 5, 1, 2, 3] rfl
    replace hD2 := hD2.sub (ws' := [mO cy mm ik tl fm tz vl iw rm rr om, ia cy (mm 1) 169 S, ia cy (mm 4) 7 (upd C 0 (C 0 + 1)), ia cy (mm 6) 6 P, ia cy (mm 7) 6 N, ia cy (mm 10) 20 le]) [4, 0, 5, 1, 2, 3] (by decide) rfl
    subst hr_11
    have hcd : cG S x1 = 0 := by unfold cG; clear hx hb hml hown hr hlocks hw hsz hA hG hK hP2 hD2 hS2 hl0; grind
    have hq9 : ([mO cy mm ik tl fm tz vl iw rm rr om, ia cy (mm 1) 169 S, ia cy (mm 4) 7 (upd C 0 (C 0 + 1)), ia cy (mm 6) 6 P, ia cy (mm 7) 6 N, ia cy (mm 10) 20 le]) = ([mO cy mm ik tl fm tz vl iw rm rr om, ia cy (mm 1) 169 S, ia cy (mm 4) 7 (fnd C (cG S x1)), ia cy (mm 6) 6 P, ia cy (mm 7) 6 N, ia cy (mm 10) 20 le]) := congrArg (fun z9 => [mO cy mm ik tl fm tz vl iw rm rr om, ia cy (mm 1) 169 S, ia cy (mm 4) 7 z9, ia cy (mm 6) 6 P, ia cy (mm 7) 6 N, ia cy (mm 10) 20 le]) (show (upd C 0 (C 0 + 1)) = (fnd C (cG S x1)) from fnd_f hcd (by decide))
    replace hP2 := (congrArg (fun z9 => va_P D vwCl z9 _) hq9).mp hP2
    replace hD2 := (congrArg (fun z9 => va_D _ z9) hq9).mp hD2
    clear hq9
    refine re_i (P, N, rm, rr, le) hx hb hr hlocks hP2 hD2 hS2 dX7_turns_14 ?_
    exact (ans_f hcd (by decide) rfl)

theorem kc_X7_worst : kV yX7_worst cX7_worst 5 (some .int) 0 := ⟨kw_5_189, kw_5_190, kw_1_8, kw_5_191, by decide, by decide, by decide +kernel⟩
set_option maxHeartbeats 4000000 in
set_option maxRecDepth 100000 in
theorem c_X7_worst (l : Launch) (D : va_G) (cy : Nat → ClassId) (G : Nat → Nat) (sz : Nat) (mm : Nat → Nat) (ik : Int32) (tl : Int32) (fm : Int32) (tz : Int32) (vl : Int32) (iw : Int32) (rm : Int32) (rr : Int32) (om : Int32) (S : Nat → Int32) (P : Nat → Int32) (N : Nat → Int32) (wf : wf S) : Met l yX7_worst (wm yX7_worst cX7_worst 5 (some .int)) { frames := 5, cells := 0, slots := 0, locals := 113 } (va_Pc [.ref (mm 0)] (pr D (TY cy) G ([mO cy mm ik tl fm tz vl iw rm rr om, ia cy (mm 1) 169 S, ia cy (mm 6) 6 P, ia cy (mm 7) 6 N]) sz)) (va_Qi (fun (r : Int32) (u : (Nat → Int32) × (Nat → Int32) × Int32 × Int32) => r = wrB S 4) (fun (u : (Nat → Int32) × (Nat → Int32) × Int32 × Int32) t => po D (va_A ([mO cy mm ik tl fm tz vl iw rm rr om, ia cy (mm 1) 169 S, ia cy (mm 6) 6 P, ia cy (mm 7) 6 N]) sz) ([mO cy mm ik tl fm tz vl iw u.2.2.1 u.2.2.2 om, ia cy (mm 1) 169 S, ia cy (mm 6) 6 u.1, ia cy (mm 7) 6 u.2.1]) t) (va_A ([mO cy mm ik tl fm tz vl iw rm rr om, ia cy (mm 1) 169 S, ia cy (mm 6) 6 P, ia cy (mm 7) 6 N]) sz)) 0 0 (va_A ([mO cy mm ik tl fm tz vl iw rm rr om, ia cy (mm 1) 169 S, ia cy (mm 6) 6 P, ia cy (mm 7) 6 N]) sz) := by
  refine mk_rw (by decide) RX7 rfl (Nat.le_of_ble_eq_true rfl) [(0, .ref (mm 0))] rfl ?_
  intro p e s m below meth c hx hb hml hown hr hlocks hin hw hsz hA hG hK H0 locs0 hP0 hD0 hS0 ls0 hl0
  clear hin
  refine lv_aload_n hx hb dX7_worst_0 rfl (lv_at hl0 0 rfl) ?_
  refine va_get (D := D) (ci := 7) (v := .ref (mm 1)) (C := RX7) (T := TX7) (N := 23) hx hb hw iX7 hown hK hP0 0 rfl rfl 0 (by decide) (hw _ kw_4_64) (fun _ h9 => h9) rfl dX7_worst_1 ?_
  refine lv_iconst (v := 4) hx hb dX7_worst_4 (by decide) ?_
  refine ald_i (f := S) hx hb hK hP0 1 0 rfl rfl 4 rfl (by first | omega | assumption) (by decide) dX7_worst_5 ?_
  refine lv_istore_n (lv' := [(1, .int (S 4)), (0, .ref (mm 0))]) hx hb dX7_worst_6 rfl hl0 (by decide) rfl (fun ls1 hl1 => ?_)
  clear hl0 ls0
  refine lv_iconst (v := 0) hx hb dX7_worst_7 (by decide) ?_
  refine lv_istore_n (lv' := [(2, .int 0), (1, .int (S 4)), (0, .ref (mm 0))]) hx hb dX7_worst_8 rfl hl1 (by decide) rfl (fun ls2 hl2 => ?_)
  clear hl1 ls1
  refine lv_iconst (v := (-1)) hx hb dX7_worst_9 (by decide) ?_
  refine lv_istore_n (lv' := [(3, .int (-1)), (2, .int 0), (1, .int (S 4)), (0, .ref (mm 0))]) hx hb dX7_worst_10 rfl hl2 (by decide) rfl (fun ls3 hl3 => ?_)
  clear hl2 ls2
  refine lv_iconst (v := 0) hx hb dX7_worst_11 (by decide) ?_
  refine lv_istore (lv' := [(4, .int 0), (3, .int (-1)), (2, .int 0), (1, .int (S 4)), (0, .ref (mm 0))]) hx hb dX7_worst_12 hl3 (by decide) rfl (fun ls4 hl4 => ?_)
  clear hl3 ls3
  have hq9 : wrB S 0 = 0 := rfl
  replace hl4 : lv_has ls4 5 [(4, .int 0), (3, .int (-1)), (2, .int (wrB S 0)), (1, .int (S 4)), (0, .ref (mm 0))] := (congrArg (fun z9 => lv_has ls4 5 [(4, .int 0), (3, .int (-1)), (2, .int z9), (1, .int (S 4)), (0, .ref (mm 0))]) hq9).mpr hl4
  clear hq9
  have hq9 : wrM S 0 = -1 := rfl
  replace hl4 : lv_has ls4 5 [(4, .int 0), (3, .int (wrM S 0)), (2, .int (wrB S 0)), (1, .int (S 4)), (0, .ref (mm 0))] := (congrArg (fun z9 => lv_has ls4 5 [(4, .int 0), (3, .int z9), (2, .int (wrB S 0)), (1, .int (S 4)), (0, .ref (mm 0))]) hq9).mpr hl4
  clear hq9
  refine wlp (ι := Nat × (Nat → Int32) × (Nat → Int32) × (Nat → Int32) × Int32 × Int32) (nL := 5) (fun x9 => (x9.1 ≤ 4) ∧ (∀ v : Int32, upd x9.2.1 4 v = upd S 4 v)) (fun x9 => [mO cy mm ik tl fm tz vl iw x9.2.2.2.2.1 x9.2.2.2.2.2 om, ia cy (mm 1) 169 x9.2.1, ia cy (mm 6) 6 x9.2.2.1, ia cy (mm 7) 6 x9.2.2.2.1]) (fun x9 => [(4, .int (nI x9.1)), (3, .int (wrM S x9.1)), (2, .int (wrB S x9.1)), (1, .int (S 4)), (0, .ref (mm 0))]) (fun x9 => []) (fun x9 => 4 - x9.1) 14 ?_ (0, S, P, N, rm, rr) (⟨by first | omega | assumption | rfl | simp_all, fun _ => rfl⟩) rfl hP0 hD0 hS0 (lv_sub hl4 [0, 1, 2, 3, 4] rfl)
  clear hP0 hD0 hS0 locs0 H0 hl4 ls4
  intro x9 hI ih_14 H1 locs1 ls5 hP1 hD1 hS1 hl5
  obtain ⟨i, X1, P1, N1, rm1, rr1⟩ := x9
  obtain ⟨hi, hU⟩ := hI
  replace hi : i ≤ 4 := hi
  replace hU : ∀ v : Int32, upd X1 4 v = upd S 4 v := hU
  replace hP1 : va_P D vwCl ([mO cy mm ik tl fm tz vl iw rm1 rr1 om, ia cy (mm 1) 169 X1, ia cy (mm 6) 6 P1, ia cy (mm 7) 6 N1]) H1 := hP1
  replace hD1 : va_D (va_A _ sz) ([mO cy mm ik tl fm tz vl iw rm1 rr1 om, ia cy (mm 1) 169 X1, ia cy (mm 6) 6 P1, ia cy (mm 7) 6 N1]) := hD1
  replace hl5 : lv_has ls5 5 [(4, .int (nI i)), (3, .int (wrM S i)), (2, .int (wrB S i)), (1, .int (S 4)), (0, .ref (mm 0))] := hl5
  show W p l e _ s m _ below meth c _ _ _ _ _ (F0 m 14 ls5 [])
  refine lv_iload hx hb dX7_worst_14 (lv_at hl5 0 rfl) ?_
  refine lv_iconst (v := 4) hx hb dX7_worst_16 (by decide) ?_
  refine ln_ge (tgt := 54) i 4 rfl rfl (by omega) (by omega) hx hb dX7_worst_17 (by decide) (fun c_17 => ?_) (fun c_17 => ?_)
  · obtain rfl : i = 4 := (by omega)
    refine lv_aload_n hx hb dX7_worst_54 rfl (lv_at hl5 4 rfl) ?_
    refine va_get (D := D) (ci := 7) (v := .ref (mm 1)) (C := RX7) (T := TX7) (N := 23) hx hb hw iX7 hown hK hP1 0 rfl rfl 0 (by decide) (hw _ kw_4_64) (fun _ h9 => h9) rfl dX7_worst_55 ?_
    refine lv_iconst (v := 4) hx hb dX7_worst_58 (by decide) ?_
    refine lv_iload_n hx hb dX7_worst_59 rfl (lv_at hl5 3 rfl) ?_
    refine ast_i (f := X1) (ws' := [mO cy mm ik tl fm tz vl iw rm1 rr1 om, ia cy (mm 1) 169 (upd X1 4 (S 4)), ia cy (mm 6) 6 P1, ia cy (mm 7) 6 N1]) hx hb hK hP1 hD1 hS1 1 0 rfl rfl 4 rfl (by first | omega | assumption) (by decide) rfl dX7_worst_60 (fun H2 locs2 hP2 hD2 hS2 => ?_)
    clear hP1 hD1 hS1 locs1 H1
    have hq9 : ([mO cy mm ik tl fm tz vl iw rm1 rr1 om, ia cy (mm 1) 169 (upd X1 4 (S 4)), ia cy (mm 6) 6 P1, ia cy (mm 7) 6 N1]) = ([mO cy mm ik tl fm tz vl iw rm1 rr1 om, ia cy (mm 1) 169 S, ia cy (mm 6) 6 P1, ia cy (mm 7) 6 N1]) := congrArg (fun z9 => [mO cy mm ik tl fm tz vl iw rm1 rr1 om, ia cy (mm 1) 169 z9, ia cy (mm 6) 6 P1, ia cy (mm 7) 6 N1]) (show (upd X1 4 (S 4)) = S from (hU _).trans (upd_back S _))
    replace hP2 := (congrArg (fun z9 => va_P D vwCl z9 _) hq9).mp hP2
    replace hD2 := (congrArg (fun z9 => va_D _ z9) hq9).mp hD2
    clear hq9
    refine lv_iload_n hx hb dX7_worst_61 rfl (lv_at hl5 2 rfl) ?_
    refine re_i (P1, N1, rm1, rr1) hx hb hr hlocks hP2 hD2 hS2 dX7_worst_62 ?_
    exact (rfl)
  · refine lv_aload_n hx hb dX7_worst_20 rfl (lv_at hl5 4 rfl) ?_
    refine va_get (D := D) (ci := 7) (v := .ref (mm 1)) (C := RX7) (T := TX7) (N := 23) hx hb hw iX7 hown hK hP1 0 rfl rfl 0 (by decide) (hw _ kw_4_64) (fun _ h9 => h9) rfl dX7_worst_21 ?_
    refine lv_iconst (v := 4) hx hb dX7_worst_24 (by decide) ?_
    refine lv_iload hx hb dX7_worst_25 (lv_at hl5 0 rfl) ?_
    refine ast_i (f := X1) (ws' := [mO cy mm ik tl fm tz vl iw rm1 rr1 om, ia cy (mm 1) 169 (upd X1 4 (nI i)), ia cy (mm 6) 6 P1, ia cy (mm 7) 6 N1]) hx hb hK hP1 hD1 hS1 1 0 rfl rfl 4 rfl (by first | omega | assumption) (by decide) rfl dX7_worst_27 (fun H2 locs2 hP2 hD2 hS2 => ?_)
    clear hP1 hD1 hS1 locs1 H1
    have hq9 : ([mO cy mm ik tl fm tz vl iw rm1 rr1 om, ia cy (mm 1) 169 (upd X1 4 (nI i)), ia cy (mm 6) 6 P1, ia cy (mm 7) 6 N1]) = ([mO cy mm ik tl fm tz vl iw rm1 rr1 om, ia cy (mm 1) 169 (upd S 4 (nI i)), ia cy (mm 6) 6 P1, ia cy (mm 7) 6 N1]) := congrArg (fun z9 => [mO cy mm ik tl fm tz vl iw rm1 rr1 om, ia cy (mm 1) 169 z9, ia cy (mm 6) 6 P1, ia cy (mm 7) 6 N1]) (show (upd X1 4 (nI i)) = (upd S 4 (nI i)) from hU (nI i))
    replace hP2 := (congrArg (fun z9 => va_P D vwCl z9 _) hq9).mp hP2
    replace hD2 := (congrArg (fun z9 => va_D _ z9) hq9).mp hD2
    clear hq9
    refine lv_aload_n hx hb dX7_worst_28 rfl (lv_at hl5 4 rfl) ?_
    refine cV_v (wc := [mO cy mm ik tl fm tz vl iw rm1 rr1 om, ia cy (mm 1) 169 (upd S 4 (nI i)), ia cy (mm 6) 6 P1, ia cy (mm 7) 6 N1]) (wr := []) (rest := []) hx hb hml hown hw hG hK hP2 hD2 hS2 hA hl5 kc_X7_rests kw_5_57 [] (c_X7_rests l D cy G H2.size mm ik tl fm tz vl iw rm1 rr1 om (upd S 4 (nI i)) P1 N1 ((wf_from wf (x := nI i) ⟨nI_pos' (by omega), (nI_ltI (by omega) (by decide)).mpr c_17⟩).1)) [0, 1, 2, 3] [] rfl rfl rfl rfl rfl 0 rfl rfl rfl rfl rfl (Nat.le_of_ble_eq_true rfl) ⟨Nat.le_of_ble_eq_true rfl, Nat.le_of_ble_eq_true rfl⟩ dX7_worst_29 ⟨Nat.le_of_ble_eq_true rfl, Nat.le_of_ble_eq_true rfl⟩ (fun u9 H3 locs3 hu9 hP3 hD3 hS3 => ?_)
    clear hP2 hD2 hS2 locs2 H2
    obtain ⟨N1_29, rfl⟩ : ∃ z9, z9 = u9 := ⟨_, rfl⟩
    replace hP3 : va_P D vwCl ([mO cy mm ik tl fm tz vl iw (nI (RC (upd S 4 (nI i)))) (b2i (RC (upd S 4 (nI i)) = 60)) om, ia cy (mm 1) 169 (upd S 4 (nI i)), ia cy (mm 6) 6 (PR (upd S 4 (nI i))), ia cy (mm 7) 6 N1_29]) H3 := hP3
    replace hD3 : va_D (va_A _ sz) ([mO cy mm ik tl fm tz vl iw (nI (RC (upd S 4 (nI i)))) (b2i (RC (upd S 4 (nI i)) = 60)) om, ia cy (mm 1) 169 (upd S 4 (nI i)), ia cy (mm 6) 6 (PR (upd S 4 (nI i))), ia cy (mm 7) 6 N1_29]) := hD3
    refine lv_aload_n hx hb dX7_worst_32 rfl (lv_at hl5 4 rfl) ?_
    refine rV_i (wc := [mO cy mm ik tl fm tz vl iw (nI (RC (upd S 4 (nI i)))) (b2i (RC (upd S 4 (nI i)) = 60)) om, ia cy (mm 1) 169 (upd S 4 (nI i)), ia cy (mm 6) 6 (PR (upd S 4 (nI i)))]) (rest := []) hx hb hml hown hw hG hK hP3 hS3 hA hl5 kc_X7_lost kw_5_105 [] (c_X7_lost l D cy G H3.size mm ik tl fm tz vl iw (nI (RC (upd S 4 (nI i)))) (b2i (RC (upd S 4 (nI i)) = 60)) om (upd S 4 (nI i)) (PR (upd S 4 (nI i))) ((wf_from wf (x := nI i) ⟨nI_pos' (by omega), (nI_ltI (by omega) (by decide)).mpr c_17⟩).1)) [0, 1, 2] rfl 0 rfl rfl rfl rfl rfl (Nat.le_of_ble_eq_true rfl) ⟨Nat.le_of_ble_eq_true rfl, Nat.le_of_ble_eq_true rfl⟩ dX7_worst_33 ⟨Nat.le_of_ble_eq_true rfl, Nat.le_of_ble_eq_true rfl⟩ (fun r_33 H4 locs4 hr_33 hP4 hS4 => ?_)
    have hD4 := hD3
    clear hP3 hD3 hS3 locs3 H3
    subst hr_33
    refine tp (show (frs (upd S 4 (nI i)) (PR (upd S 4 (nI i))) (gcN (upd S 4 (nI i))) * (upd S 4 (nI i)) 2) = lost (upd S 4 (nI i)) from rfl) ?_
    refine lv_iload_n hx hb dX7_worst_36 rfl (lv_at hl5 1 rfl) ?_
    refine lv_icmp_le (tgt := 48) hx hb dX7_worst_37 (by decide) (fun c_37 => ?_) (fun c_37 => ?_)
    · have hq9 : wrB S (i + 1) = wrB S i := by clear hx hb hml hown hr hlocks hw hsz hA hG hK hP4 hD4 hS4 hl5 ih_14; grind [wrB]
      replace hl5 : lv_has ls5 5 [(4, .int (nI i)), (3, .int (wrM S i)), (2, .int (wrB S (i + 1))), (1, .int (S 4)), (0, .ref (mm 0))] := (congrArg (fun z9 => lv_has ls5 5 [(4, .int (nI i)), (3, .int (wrM S i)), (2, .int z9), (1, .int (S 4)), (0, .ref (mm 0))]) hq9).mpr hl5
      clear hq9
      have hq9 : wrM S (i + 1) = wrM S i := by clear hx hb hml hown hr hlocks hw hsz hA hG hK hP4 hD4 hS4 hl5 ih_14; grind [wrM]
      replace hl5 : lv_has ls5 5 [(4, .int (nI i)), (3, .int (wrM S (i + 1))), (2, .int (wrB S (i + 1))), (1, .int (S 4)), (0, .ref (mm 0))] := (congrArg (fun z9 => lv_has ls5 5 [(4, .int (nI i)), (3, .int z9), (2, .int (wrB S (i + 1))), (1, .int (S 4)), (0, .ref (mm 0))]) hq9).mpr hl5
      clear hq9
      refine lv_iinc (v := nI (i + 1)) (lv' := [(4, .int (nI (i + 1))), (3, .int (wrM S (i + 1))), (2, .int (wrB S (i + 1))), (1, .int (S 4)), (0, .ref (mm 0))]) hx hb dX7_worst_48 hl5 (k := 0) rfl (nI_inc _) (by decide) rfl (fun ls6 hl6 => ?_)
      clear hl5 ls5
      refine lv_goto (tgt := 14) hx hb dX7_worst_51 (by decide) ?_
      exact ih_14 (i + 1, upd S 4 (nI i), PR (upd S 4 (nI i)), N1_29, nI (RC (upd S 4 (nI i))), b2i (RC (upd S 4 (nI i)) = 60)) (⟨by first | omega | assumption | rfl | simp_all, fun v => upd_upd S _ _ v⟩) (by (try dsimp only); omega) H4 locs4 ls6 hP4 hD4 hS4 (lv_sub hl6 [0, 1, 2, 3, 4] rfl)
    · refine lv_iload hx hb dX7_worst_40 (lv_at hl5 0 rfl) ?_
      refine lv_istore_n (lv' := [(2, .int (nI i)), (4, .int (nI i)), (3, .int (wrM S i)), (1, .int (S 4)), (0, .ref (mm 0))]) hx hb dX7_worst_42 rfl hl5 (by decide) rfl (fun ls6 hl6 => ?_)
      clear hl5 ls5
      refine lv_aload_n hx hb dX7_worst_43 rfl (lv_at hl6 4 rfl) ?_
      refine rV_i (wc := [mO cy mm ik tl fm tz vl iw (nI (RC (upd S 4 (nI i)))) (b2i (RC (upd S 4 (nI i)) = 60)) om, ia cy (mm 1) 169 (upd S 4 (nI i)), ia cy (mm 6) 6 (PR (upd S 4 (nI i)))]) (rest := []) hx hb hml hown hw hG hK hP4 hS4 hA hl6 kc_X7_lost kw_5_105 [] (c_X7_lost l D cy G H4.size mm ik tl fm tz vl iw (nI (RC (upd S 4 (nI i)))) (b2i (RC (upd S 4 (nI i)) = 60)) om (upd S 4 (nI i)) (PR (upd S 4 (nI i))) ((wf_from wf (x := nI i) ⟨nI_pos' (by omega), (nI_ltI (by omega) (by decide)).mpr c_17⟩).1)) [0, 1, 2] rfl 0 rfl rfl rfl rfl rfl (Nat.le_of_ble_eq_true rfl) ⟨Nat.le_of_ble_eq_true rfl, Nat.le_of_ble_eq_true rfl⟩ dX7_worst_44 ⟨Nat.le_of_ble_eq_true rfl, Nat.le_of_ble_eq_true rfl⟩ (fun r_44 H5 locs5 hr_44 hP5 hS5 => ?_)
      have hD5 := hD4
      clear hP4 hD4 hS4 locs4 H4
      subst hr_44
      refine tp (show (frs (upd S 4 (nI i)) (PR (upd S 4 (nI i))) (gcN (upd S 4 (nI i))) * (upd S 4 (nI i)) 2) = lost (upd S 4 (nI i)) from rfl) ?_
      refine lv_istore_n (lv' := [(3, .int (lost (upd S 4 (nI i)))), (2, .int (nI i)), (4, .int (nI i)), (1, .int (S 4)), (0, .ref (mm 0))]) hx hb dX7_worst_47 rfl hl6 (by decide) rfl (fun ls7 hl7 => ?_)
      clear hl6 ls6
      have hq9 : wrB S (i + 1) = nI i := by clear hx hb hml hown hr hlocks hw hsz hA hG hK hP5 hD5 hS5 hl7 ih_14; grind [wrB]
      replace hl7 : lv_has ls7 5 [(3, .int (lost (upd S 4 (nI i)))), (2, .int (wrB S (i + 1))), (4, .int (nI i)), (1, .int (S 4)), (0, .ref (mm 0))] := (congrArg (fun z9 => lv_has ls7 5 [(3, .int (lost (upd S 4 (nI i)))), (2, .int z9), (4, .int (nI i)), (1, .int (S 4)), (0, .ref (mm 0))]) hq9).mpr hl7
      clear hq9
      have hq9 : wrM S (i + 1) = lost (upd S 4 (nI i)) := by clear hx hb hml hown hr hlocks hw hsz hA hG hK hP5 hD5 hS5 hl7 ih_14; grind [wrM]
      replace hl7 : lv_has ls7 5 [(3, .int (wrM S (i + 1))), (2, .int (wrB S (i + 1))), (4, .int (nI i)), (1, .int (S 4)), (0, .ref (mm 0))] := (congrArg (fun z9 => lv_has ls7 5 [(3, .int z9), (2, .int (wrB S (i + 1))), (4, .int (nI i)), (1, .int (S 4)), (0, .ref (mm 0))]) hq9).mpr hl7
      clear hq9
      refine lv_iinc (v := nI (i + 1)) (lv' := [(4, .int (nI (i + 1))), (3, .int (wrM S (i + 1))), (2, .int (wrB S (i + 1))), (1, .int (S 4)), (0, .ref (mm 0))]) hx hb dX7_worst_48 hl7 (k := 2) rfl (nI_inc _) (by decide) rfl (fun ls8 hl8 => ?_)
      clear hl7 ls7
      refine lv_goto (tgt := 14) hx hb dX7_worst_51 (by decide) ?_
      exact ih_14 (i + 1, upd S 4 (nI i), PR (upd S 4 (nI i)), N1_29, nI (RC (upd S 4 (nI i))), b2i (RC (upd S 4 (nI i)) = 60)) (⟨by first | omega | assumption | rfl | simp_all, fun v => upd_upd S _ _ v⟩) (by (try dsimp only); omega) H5 locs5 ls8 hP5 hD5 hS5 (lv_sub hl8 [0, 1, 2, 3, 4] rfl)

theorem kc_X7_count : kV yX7_count cX7_count 4 (some .int) 1 := ⟨kw_6_1, kw_6_2, kw_1_8, kw_6_3, by decide, by decide, by decide +kernel⟩
set_option maxHeartbeats 4000000 in
set_option maxRecDepth 100000 in
theorem c_X7_count (l : Launch) (D : va_G) (cy : Nat → ClassId) (G : Nat → Nat) (sz : Nat) (mm : Nat → Nat) (ik : Int32) (fm : Int32) (tz : Int32) (vl : Int32) (iw : Int32) (rm : Int32) (rr : Int32) (om : Int32) (S : Nat → Int32) (C : Nat → Int32) (n : Nat) (x1 : Int32) (wf : wf S) : Met l yX7_count (wm yX7_count cX7_count 4 (some .int)) { frames := 1, cells := 0, slots := 0, locals := 22 } (va_Pc [.ref (mm 0), .int x1] (pr D (TY cy) G ([mO cy mm ik (nI n) fm tz vl iw rm rr om, ia cy (mm 1) 169 S, ia cy (mm 4) 7 C]) sz)) (va_Qi (fun (r : Int32) (u : Unit) => r = ans (cCount x1) (vCount S n x1)) (fun (u : Unit) t => po D (va_A ([mO cy mm ik (nI n) fm tz vl iw rm rr om, ia cy (mm 1) 169 S, ia cy (mm 4) 7 C]) sz) ([mO cy mm ik (nI n) fm tz vl iw rm rr om, ia cy (mm 1) 169 S, ia cy (mm 4) 7 (fnd C (cCount x1))]) t) (va_A ([mO cy mm ik (nI n) fm tz vl iw rm rr om, ia cy (mm 1) 169 S, ia cy (mm 4) 7 C]) sz)) 0 0 (va_A ([mO cy mm ik (nI n) fm tz vl iw rm rr om, ia cy (mm 1) 169 S, ia cy (mm 4) 7 C]) sz) := by
  refine mk_rw (by decide) RX7 rfl (Nat.le_of_ble_eq_true rfl) [(0, .ref (mm 0)), (1, .int x1)] rfl ?_
  intro p e s m below meth c hx hb hml hown hr hlocks hin hw hsz hA hG hK H0 locs0 hP0 hD0 hS0 ls0 hl0
  clear hin
  have hg20 := wf_g20 wf
  refine lv_iconst (v := 0) hx hb dX7_count_0 (by decide) ?_
  refine lv_istore_n (lv' := [(2, .int 0), (0, .ref (mm 0)), (1, .int x1)]) hx hb dX7_count_1 rfl hl0 (by decide) rfl (fun ls1 hl1 => ?_)
  clear hl0 ls0
  refine lv_iload_n hx hb dX7_count_2 rfl (lv_at hl1 2 rfl) ?_
  by_cases c_3_0 : x1 = 0
  · refine tp c_3_0 ?_
    refine lv_tableIn (off := 41) (tgt := 44) hx hb dX7_count_3 (by decide) (by decide) (by decide) (by decide) ?_
    refine lv_aload_n hx hb dX7_count_44 rfl (lv_at hl1 1 rfl) ?_
    refine va_get (D := D) (ci := 7) (v := .ref (mm 1)) (C := RX7) (T := TX7) (N := 23) hx hb hw iX7 hown hK hP0 0 rfl rfl 0 (by decide) (hw _ kw_4_64) (fun _ h9 => h9) rfl dX7_count_45 ?_
    refine lv_iconst (v := 0) hx hb dX7_count_48 (by decide) ?_
    refine ald_i (f := S) hx hb hK hP0 1 0 rfl rfl 0 rfl (by first | omega | assumption) (by decide) dX7_count_49 ?_
    refine tp (show (S 0) = nI (rcN S) from wf_r wf) ?_
    have hcd : cCount x1 = 7 := by rw [c_3_0]; rfl
    have hq9 : ([mO cy mm ik (nI n) fm tz vl iw rm rr om, ia cy (mm 1) 169 S, ia cy (mm 4) 7 C]) = ([mO cy mm ik (nI n) fm tz vl iw rm rr om, ia cy (mm 1) 169 S, ia cy (mm 4) 7 (fnd C (cCount x1))]) := congrArg (fun z9 => [mO cy mm ik (nI n) fm tz vl iw rm rr om, ia cy (mm 1) 169 S, ia cy (mm 4) 7 z9]) (show C = (fnd C (cCount x1)) from fnd_o hcd)
    replace hP0 := (congrArg (fun z9 => va_P D vwCl z9 _) hq9).mp hP0
    replace hD0 := (congrArg (fun z9 => va_D _ z9) hq9).mp hD0
    clear hq9
    refine re_i () hx hb hr hlocks hP0 hD0 hS0 dX7_count_50 ?_
    exact (ans_o hcd (by rw [c_3_0]; exact (wf_r wf).symm))
  by_cases c_3_1 : x1 = 1
  · refine tp c_3_1 ?_
    refine lv_tableIn (off := 48) (tgt := 51) hx hb dX7_count_3 (by decide) (by decide) (by decide) (by decide) ?_
    refine lv_aload_n hx hb dX7_count_51 rfl (lv_at hl1 1 rfl) ?_
    refine va_get (D := D) (ci := 7) (v := .ref (mm 1)) (C := RX7) (T := TX7) (N := 23) hx hb hw iX7 hown hK hP0 0 rfl rfl 0 (by decide) (hw _ kw_4_64) (fun _ h9 => h9) rfl dX7_count_52 ?_
    refine lv_iconst (v := 1) hx hb dX7_count_55 (by decide) ?_
    refine ald_i (f := S) hx hb hK hP0 1 0 rfl rfl 1 rfl (by first | omega | assumption) (by decide) dX7_count_56 ?_
    refine tp (show (S 1) = nI (gcN S) from wf_g wf) ?_
    have hcd : cCount x1 = 7 := by rw [c_3_1]; rfl
    have hq9 : ([mO cy mm ik (nI n) fm tz vl iw rm rr om, ia cy (mm 1) 169 S, ia cy (mm 4) 7 C]) = ([mO cy mm ik (nI n) fm tz vl iw rm rr om, ia cy (mm 1) 169 S, ia cy (mm 4) 7 (fnd C (cCount x1))]) := congrArg (fun z9 => [mO cy mm ik (nI n) fm tz vl iw rm rr om, ia cy (mm 1) 169 S, ia cy (mm 4) 7 z9]) (show C = (fnd C (cCount x1)) from fnd_o hcd)
    replace hP0 := (congrArg (fun z9 => va_P D vwCl z9 _) hq9).mp hP0
    replace hD0 := (congrArg (fun z9 => va_D _ z9) hq9).mp hD0
    clear hq9
    refine re_i () hx hb hr hlocks hP0 hD0 hS0 dX7_count_57 ?_
    exact (ans_o hcd (by rw [c_3_1]; exact (wf_g wf).symm))
  by_cases c_3_2 : x1 = 2
  · refine tp c_3_2 ?_
    refine lv_tableIn (off := 55) (tgt := 58) hx hb dX7_count_3 (by decide) (by decide) (by decide) (by decide) ?_
    refine lv_iconst (v := 0) hx hb dX7_count_58 (by decide) ?_
    refine lv_istore_n (lv' := [(3, .int 0), (2, .int 0), (0, .ref (mm 0)), (1, .int x1)]) hx hb dX7_count_59 rfl hl1 (by decide) rfl (fun ls2 hl2 => ?_)
    clear hl1 ls1
    have hq9 : sm (fun g => if S (16 + 8 * g) = 0 then 1 else 0) 0 = 0 := rfl
    replace hl2 : lv_has ls2 4 [(3, .int 0), (2, .int (sm (fun g => if S (16 + 8 * g) = 0 then 1 else 0) 0)), (0, .ref (mm 0)), (1, .int x1)] := (congrArg (fun z9 => lv_has ls2 4 [(3, .int 0), (2, .int z9), (0, .ref (mm 0)), (1, .int x1)]) hq9).mpr hl2
    clear hq9
    refine wlp (ι := Nat) (nL := 4) (fun x9 => (x9 ≤ gcN S)) (fun x9 => [mO cy mm ik (nI n) fm tz vl iw rm rr om, ia cy (mm 1) 169 S, ia cy (mm 4) 7 C]) (fun x9 => [(3, .int (nI x9)), (2, .int (sm (fun g => if S (16 + 8 * g) = 0 then 1 else 0) x9)), (0, .ref (mm 0)), (1, .int x1)]) (fun x9 => []) (fun x9 => gcN S - x9) 60 ?_ 0 (by first | omega | assumption | rfl | simp_all) rfl hP0 hD0 hS0 (lv_sub hl2 [0, 1, 2, 3] rfl)
    clear hP0 hD0 hS0 locs0 H0 hl2 ls2
    intro x9 hI ih_60 H1 locs1 ls3 hP1 hD1 hS1 hl3
    obtain ⟨i, rfl⟩ : ∃ z9, z9 = x9 := ⟨_, rfl⟩
    have hi := hI
    replace hi : i ≤ gcN S := hi
    replace hP1 : va_P D vwCl ([mO cy mm ik (nI n) fm tz vl iw rm rr om, ia cy (mm 1) 169 S, ia cy (mm 4) 7 C]) H1 := hP1
    replace hD1 : va_D (va_A _ sz) ([mO cy mm ik (nI n) fm tz vl iw rm rr om, ia cy (mm 1) 169 S, ia cy (mm 4) 7 C]) := hD1
    replace hl3 : lv_has ls3 4 [(3, .int (nI i)), (2, .int (sm (fun g => if S (16 + 8 * g) = 0 then 1 else 0) i)), (0, .ref (mm 0)), (1, .int x1)] := hl3
    show W p l e _ s m _ below meth c _ _ _ _ _ (F0 m 60 ls3 [])
    refine lv_iload_n hx hb dX7_count_60 rfl (lv_at hl3 0 rfl) ?_
    refine lv_aload_n hx hb dX7_count_61 rfl (lv_at hl3 2 rfl) ?_
    refine va_get (D := D) (ci := 7) (v := .ref (mm 1)) (C := RX7) (T := TX7) (N := 23) hx hb hw iX7 hown hK hP1 0 rfl rfl 0 (by decide) (hw _ kw_4_64) (fun _ h9 => h9) rfl dX7_count_62 ?_
    refine lv_iconst (v := 1) hx hb dX7_count_65 (by decide) ?_
    refine ald_i (f := S) hx hb hK hP1 1 0 rfl rfl 1 rfl (by first | omega | assumption) (by decide) dX7_count_66 ?_
    refine tp (show (S 1) = nI (gcN S) from wf_g wf) ?_
    refine ln_ge (tgt := 88) i (gcN S) rfl rfl (by omega) (by omega) hx hb dX7_count_67 (by decide) (fun c_67 => ?_) (fun c_67 => ?_)
    · obtain rfl : i = gcN S := (by omega)
      refine lv_iload_n hx hb dX7_count_88 rfl (lv_at hl3 1 rfl) ?_
      have hcd : cCount x1 = 7 := by rw [c_3_2]; rfl
      have hq9 : ([mO cy mm ik (nI n) fm tz vl iw rm rr om, ia cy (mm 1) 169 S, ia cy (mm 4) 7 C]) = ([mO cy mm ik (nI n) fm tz vl iw rm rr om, ia cy (mm 1) 169 S, ia cy (mm 4) 7 (fnd C (cCount x1))]) := congrArg (fun z9 => [mO cy mm ik (nI n) fm tz vl iw rm rr om, ia cy (mm 1) 169 S, ia cy (mm 4) 7 z9]) (show C = (fnd C (cCount x1)) from fnd_o hcd)
      replace hP1 := (congrArg (fun z9 => va_P D vwCl z9 _) hq9).mp hP1
      replace hD1 := (congrArg (fun z9 => va_D _ z9) hq9).mp hD1
      clear hq9
      refine re_i () hx hb hr hlocks hP1 hD1 hS1 dX7_count_89 ?_
      exact (ans_o hcd (by rw [c_3_2]; rfl))
    · refine lv_iload_n hx hb dX7_count_70 rfl (lv_at hl3 1 rfl) ?_
      refine lv_iconst (v := 1) hx hb dX7_count_71 (by decide) ?_
      refine lv_aload_n hx hb dX7_count_72 rfl (lv_at hl3 2 rfl) ?_
      refine lv_iload_n hx hb dX7_count_73 rfl (lv_at hl3 0 rfl) ?_
      refine lv_bipush (v := 7) hx hb dX7_count_74 (by decide) ?_
      refine rV_i (wc := [mO cy mm ik (nI n) fm tz vl iw rm rr om, ia cy (mm 1) 169 S]) (rest := [.int 1, .int (sm (fun g => if S (16 + 8 * g) = 0 then 1 else 0) i)]) hx hb hml hown hw hG hK hP1 hS1 hA hl3 kc_X7_has kw_4_174 [.int (nI i), .int 7] (c_X7_has l D cy G H1.size mm ik (nI n) fm tz vl iw rm rr om S i 7 (by first | omega | assumption) (by first | omega | assumption)) [0, 1] rfl 0 rfl rfl rfl rfl rfl (Nat.le_of_ble_eq_true rfl) ⟨Nat.le_of_ble_eq_true rfl, Nat.le_of_ble_eq_true rfl⟩ dX7_count_76 ⟨Nat.le_of_ble_eq_true rfl, Nat.le_of_ble_eq_true rfl⟩ (fun r_76 H2 locs2 hr_76 hP2 hS2 => ?_)
      have hD2 := hD1
      clear hP1 hD1 hS1 locs1 H1
      subst hr_76
      refine tp (show (S (9 + 8 * i + 7)) = S (16 + 8 * i) from congrArg _ (by omega)) ?_
      refine lv_isub hx hb dX7_count_79 ?_
      refine lv_iadd hx hb dX7_count_80 ?_
      refine lv_istore_n (lv' := [(2, .int ((sm (fun g => if S (16 + 8 * g) = 0 then 1 else 0) i) + (1 - (S (16 + 8 * i))))), (3, .int (nI i)), (0, .ref (mm 0)), (1, .int x1)]) hx hb dX7_count_81 rfl hl3 (by decide) rfl (fun ls4 hl4 => ?_)
      clear hl3 ls3
      have h01 := (wf_can wf).2 i
      have hq9 : sm (fun g => if S (16 + 8 * g) = 0 then 1 else 0) (i + 1) = (sm (fun g => if S (16 + 8 * g) = 0 then 1 else 0) i) + (1 - (S (16 + 8 * i))) := by clear hx hb hml hown hr hlocks hw hsz hA hG hK hP2 hD2 hS2 hl4 ih_60; simp only [sm]; grind
      replace hl4 : lv_has ls4 4 [(2, .int (sm (fun g => if S (16 + 8 * g) = 0 then 1 else 0) (i + 1))), (3, .int (nI i)), (0, .ref (mm 0)), (1, .int x1)] := (congrArg (fun z9 => lv_has ls4 4 [(2, .int z9), (3, .int (nI i)), (0, .ref (mm 0)), (1, .int x1)]) hq9).mpr hl4
      clear hq9
      refine lv_iinc (v := nI (i + 1)) (lv' := [(3, .int (nI (i + 1))), (2, .int (sm (fun g => if S (16 + 8 * g) = 0 then 1 else 0) (i + 1))), (0, .ref (mm 0)), (1, .int x1)]) hx hb dX7_count_82 hl4 (k := 1) rfl (nI_inc _) (by decide) rfl (fun ls5 hl5 => ?_)
      clear hl4 ls4
      refine lv_goto (tgt := 60) hx hb dX7_count_85 (by decide) ?_
      exact ih_60 (i + 1) (by first | omega | assumption | rfl | simp_all) (by (try dsimp only); omega) H2 locs2 ls5 hP2 hD2 hS2 (lv_sub hl5 [0, 1, 2, 3] rfl)
  by_cases c_3_3 : x1 = 3
  · refine tp c_3_3 ?_
    refine lv_tableIn (off := 87) (tgt := 90) hx hb dX7_count_3 (by decide) (by decide) (by decide) (by decide) ?_
    refine lv_aload_n hx hb dX7_count_90 rfl (lv_at hl1 1 rfl) ?_
    refine va_get (D := D) (ci := 7) (v := .int (nI n)) (C := RX7) (T := TX7) (N := 23) hx hb hw iX7 hown hK hP0 0 rfl rfl 6 (by decide) (hw _ kw_4_70) (fun _ h9 => h9) rfl dX7_count_91 ?_
    have hcd : cCount x1 = 7 := by rw [c_3_3]; rfl
    have hq9 : ([mO cy mm ik (nI n) fm tz vl iw rm rr om, ia cy (mm 1) 169 S, ia cy (mm 4) 7 C]) = ([mO cy mm ik (nI n) fm tz vl iw rm rr om, ia cy (mm 1) 169 S, ia cy (mm 4) 7 (fnd C (cCount x1))]) := congrArg (fun z9 => [mO cy mm ik (nI n) fm tz vl iw rm rr om, ia cy (mm 1) 169 S, ia cy (mm 4) 7 z9]) (show C = (fnd C (cCount x1)) from fnd_o hcd)
    replace hP0 := (congrArg (fun z9 => va_P D vwCl z9 _) hq9).mp hP0
    replace hD0 := (congrArg (fun z9 => va_D _ z9) hq9).mp hD0
    clear hq9
    refine re_i () hx hb hr hlocks hP0 hD0 hS0 dX7_count_94 ?_
    exact (ans_o hcd (by rw [c_3_3]; rfl))
  by_cases c_3_4 : x1 = 4
  · refine tp c_3_4 ?_
    refine lv_tableIn (off := 92) (tgt := 95) hx hb dX7_count_3 (by decide) (by decide) (by decide) (by decide) ?_
    refine lv_aload_n hx hb dX7_count_95 rfl (lv_at hl1 1 rfl) ?_
    refine va_get (D := D) (ci := 7) (v := .ref (mm 1)) (C := RX7) (T := TX7) (N := 23) hx hb hw iX7 hown hK hP0 0 rfl rfl 0 (by decide) (hw _ kw_4_64) (fun _ h9 => h9) rfl dX7_count_96 ?_
    refine lv_bipush (v := 8) hx hb dX7_count_99 (by decide) ?_
    refine ald_i (f := S) hx hb hK hP0 1 0 rfl rfl 8 rfl (by first | omega | assumption) (by decide) dX7_count_101 ?_
    have hcd : cCount x1 = 7 := by rw [c_3_4]; rfl
    have hq9 : ([mO cy mm ik (nI n) fm tz vl iw rm rr om, ia cy (mm 1) 169 S, ia cy (mm 4) 7 C]) = ([mO cy mm ik (nI n) fm tz vl iw rm rr om, ia cy (mm 1) 169 S, ia cy (mm 4) 7 (fnd C (cCount x1))]) := congrArg (fun z9 => [mO cy mm ik (nI n) fm tz vl iw rm rr om, ia cy (mm 1) 169 S, ia cy (mm 4) 7 z9]) (show C = (fnd C (cCount x1)) from fnd_o hcd)
    replace hP0 := (congrArg (fun z9 => va_P D vwCl z9 _) hq9).mp hP0
    replace hD0 := (congrArg (fun z9 => va_D _ z9) hq9).mp hD0
    clear hq9
    refine re_i () hx hb hr hlocks hP0 hD0 hS0 dX7_count_102 ?_
    exact (ans_o hcd (by rw [c_3_4]; rfl))
  by_cases c_3_5 : x1 = 5
  · refine tp c_3_5 ?_
    refine lv_tableIn (off := 100) (tgt := 103) hx hb dX7_count_3 (by decide) (by decide) (by decide) (by decide) ?_
    refine lv_iconst (v := 0) hx hb dX7_count_103 (by decide) ?_
    refine lv_istore_n (lv' := [(3, .int 0), (2, .int 0), (0, .ref (mm 0)), (1, .int x1)]) hx hb dX7_count_104 rfl hl1 (by decide) rfl (fun ls2 hl2 => ?_)
    clear hl1 ls1
    have hq9 : sm (fun g => S (12 + 8 * g)) 0 = 0 := rfl
    replace hl2 : lv_has ls2 4 [(3, .int 0), (2, .int (sm (fun g => S (12 + 8 * g)) 0)), (0, .ref (mm 0)), (1, .int x1)] := (congrArg (fun z9 => lv_has ls2 4 [(3, .int 0), (2, .int z9), (0, .ref (mm 0)), (1, .int x1)]) hq9).mpr hl2
    clear hq9
    refine wlp (ι := Nat) (nL := 4) (fun x9 => (x9 ≤ gcN S)) (fun x9 => [mO cy mm ik (nI n) fm tz vl iw rm rr om, ia cy (mm 1) 169 S, ia cy (mm 4) 7 C]) (fun x9 => [(3, .int (nI x9)), (2, .int (sm (fun g => S (12 + 8 * g)) x9)), (0, .ref (mm 0)), (1, .int x1)]) (fun x9 => []) (fun x9 => gcN S - x9) 105 ?_ 0 (by first | omega | assumption | rfl | simp_all) rfl hP0 hD0 hS0 (lv_sub hl2 [0, 1, 2, 3] rfl)
    clear hP0 hD0 hS0 locs0 H0 hl2 ls2
    intro x9 hI ih_105 H1 locs1 ls3 hP1 hD1 hS1 hl3
    obtain ⟨i, rfl⟩ : ∃ z9, z9 = x9 := ⟨_, rfl⟩
    have hi := hI
    replace hi : i ≤ gcN S := hi
    replace hP1 : va_P D vwCl ([mO cy mm ik (nI n) fm tz vl iw rm rr om, ia cy (mm 1) 169 S, ia cy (mm 4) 7 C]) H1 := hP1
    replace hD1 : va_D (va_A _ sz) ([mO cy mm ik (nI n) fm tz vl iw rm rr om, ia cy (mm 1) 169 S, ia cy (mm 4) 7 C]) := hD1
    replace hl3 : lv_has ls3 4 [(3, .int (nI i)), (2, .int (sm (fun g => S (12 + 8 * g)) i)), (0, .ref (mm 0)), (1, .int x1)] := hl3
    show W p l e _ s m _ below meth c _ _ _ _ _ (F0 m 105 ls3 [])
    refine lv_iload_n hx hb dX7_count_105 rfl (lv_at hl3 0 rfl) ?_
    refine lv_aload_n hx hb dX7_count_106 rfl (lv_at hl3 2 rfl) ?_
    refine va_get (D := D) (ci := 7) (v := .ref (mm 1)) (C := RX7) (T := TX7) (N := 23) hx hb hw iX7 hown hK hP1 0 rfl rfl 0 (by decide) (hw _ kw_4_64) (fun _ h9 => h9) rfl dX7_count_107 ?_
    refine lv_iconst (v := 1) hx hb dX7_count_110 (by decide) ?_
    refine ald_i (f := S) hx hb hK hP1 1 0 rfl rfl 1 rfl (by first | omega | assumption) (by decide) dX7_count_111 ?_
    refine tp (show (S 1) = nI (gcN S) from wf_g wf) ?_
    refine ln_ge (tgt := 130) i (gcN S) rfl rfl (by omega) (by omega) hx hb dX7_count_112 (by decide) (fun c_112 => ?_) (fun c_112 => ?_)
    · obtain rfl : i = gcN S := (by omega)
      refine lv_iload_n hx hb dX7_count_130 rfl (lv_at hl3 1 rfl) ?_
      have hcd : cCount x1 = 7 := by rw [c_3_5]; rfl
      have hq9 : ([mO cy mm ik (nI n) fm tz vl iw rm rr om, ia cy (mm 1) 169 S, ia cy (mm 4) 7 C]) = ([mO cy mm ik (nI n) fm tz vl iw rm rr om, ia cy (mm 1) 169 S, ia cy (mm 4) 7 (fnd C (cCount x1))]) := congrArg (fun z9 => [mO cy mm ik (nI n) fm tz vl iw rm rr om, ia cy (mm 1) 169 S, ia cy (mm 4) 7 z9]) (show C = (fnd C (cCount x1)) from fnd_o hcd)
      replace hP1 := (congrArg (fun z9 => va_P D vwCl z9 _) hq9).mp hP1
      replace hD1 := (congrArg (fun z9 => va_D _ z9) hq9).mp hD1
      clear hq9
      refine re_i () hx hb hr hlocks hP1 hD1 hS1 dX7_count_131 ?_
      exact (ans_o hcd (by rw [c_3_5]; rfl))
    · refine lv_iload_n hx hb dX7_count_115 rfl (lv_at hl3 1 rfl) ?_
      refine lv_aload_n hx hb dX7_count_116 rfl (lv_at hl3 2 rfl) ?_
      refine lv_iload_n hx hb dX7_count_117 rfl (lv_at hl3 0 rfl) ?_
      refine lv_iconst (v := 3) hx hb dX7_count_118 (by decide) ?_
      refine rV_i (wc := [mO cy mm ik (nI n) fm tz vl iw rm rr om, ia cy (mm 1) 169 S]) (rest := [.int (sm (fun g => S (12 + 8 * g)) i)]) hx hb hml hown hw hG hK hP1 hS1 hA hl3 kc_X7_has kw_4_174 [.int (nI i), .int 3] (c_X7_has l D cy G H1.size mm ik (nI n) fm tz vl iw rm rr om S i 3 (by first | omega | assumption) (by first | omega | assumption)) [0, 1] rfl 0 rfl rfl rfl rfl rfl (Nat.le_of_ble_eq_true rfl) ⟨Nat.le_of_ble_eq_true rfl, Nat.le_of_ble_eq_true rfl⟩ dX7_count_119 ⟨Nat.le_of_ble_eq_true rfl, Nat.le_of_ble_eq_true rfl⟩ (fun r_119 H2 locs2 hr_119 hP2 hS2 => ?_)
      have hD2 := hD1
      clear hP1 hD1 hS1 locs1 H1
      subst hr_119
      refine tp (show (S (9 + 8 * i + 3)) = S (12 + 8 * i) from congrArg _ (by omega)) ?_
      refine lv_iadd hx hb dX7_count_122 ?_
      refine lv_istore_n (lv' := [(2, .int ((sm (fun g => S (12 + 8 * g)) i) + (S (12 + 8 * i)))), (3, .int (nI i)), (0, .ref (mm 0)), (1, .int x1)]) hx hb dX7_count_123 rfl hl3 (by decide) rfl (fun ls4 hl4 => ?_)
      clear hl3 ls3
      have hq9 : sm (fun g => S (12 + 8 * g)) (i + 1) = (sm (fun g => S (12 + 8 * g)) i) + (S (12 + 8 * i)) := rfl
      replace hl4 : lv_has ls4 4 [(2, .int (sm (fun g => S (12 + 8 * g)) (i + 1))), (3, .int (nI i)), (0, .ref (mm 0)), (1, .int x1)] := (congrArg (fun z9 => lv_has ls4 4 [(2, .int z9), (3, .int (nI i)), (0, .ref (mm 0)), (1, .int x1)]) hq9).mpr hl4
      clear hq9
      refine lv_iinc (v := nI (i + 1)) (lv' := [(3, .int (nI (i + 1))), (2, .int (sm (fun g => S (12 + 8 * g)) (i + 1))), (0, .ref (mm 0)), (1, .int x1)]) hx hb dX7_count_124 hl4 (k := 1) rfl (nI_inc _) (by decide) rfl (fun ls5 hl5 => ?_)
      clear hl4 ls4
      refine lv_goto (tgt := 105) hx hb dX7_count_127 (by decide) ?_
      exact ih_105 (i + 1) (by first | omega | assumption | rfl | simp_all) (by (try dsimp only); omega) H2 locs2 ls5 hP2 hD2 hS2 (lv_sub hl5 [0, 1, 2, 3] rfl)
  by_cases c_3_6 : x1 = 6
  · refine tp c_3_6 ?_
    refine lv_tableIn (off := 129) (tgt := 132) hx hb dX7_count_3 (by decide) (by decide) (by decide) (by decide) ?_
    refine lv_iconst (v := 0) hx hb dX7_count_132 (by decide) ?_
    refine lv_istore_n (lv' := [(3, .int 0), (2, .int 0), (0, .ref (mm 0)), (1, .int x1)]) hx hb dX7_count_133 rfl hl1 (by decide) rfl (fun ls2 hl2 => ?_)
    clear hl1 ls1
    have hq9 : sm (fun g => if S (16 + 8 * g) = 0 then S (15 + 8 * g) else 0) 0 = 0 := rfl
    replace hl2 : lv_has ls2 4 [(3, .int 0), (2, .int (sm (fun g => if S (16 + 8 * g) = 0 then S (15 + 8 * g) else 0) 0)), (0, .ref (mm 0)), (1, .int x1)] := (congrArg (fun z9 => lv_has ls2 4 [(3, .int 0), (2, .int z9), (0, .ref (mm 0)), (1, .int x1)]) hq9).mpr hl2
    clear hq9
    refine wlp (ι := Nat) (nL := 4) (fun x9 => (x9 ≤ gcN S)) (fun x9 => [mO cy mm ik (nI n) fm tz vl iw rm rr om, ia cy (mm 1) 169 S, ia cy (mm 4) 7 C]) (fun x9 => [(3, .int (nI x9)), (2, .int (sm (fun g => if S (16 + 8 * g) = 0 then S (15 + 8 * g) else 0) x9)), (0, .ref (mm 0)), (1, .int x1)]) (fun x9 => []) (fun x9 => gcN S - x9) 134 ?_ 0 (by first | omega | assumption | rfl | simp_all) rfl hP0 hD0 hS0 (lv_sub hl2 [0, 1, 2, 3] rfl)
    clear hP0 hD0 hS0 locs0 H0 hl2 ls2
    intro x9 hI ih_134 H1 locs1 ls3 hP1 hD1 hS1 hl3
    obtain ⟨i, rfl⟩ : ∃ z9, z9 = x9 := ⟨_, rfl⟩
    have hi := hI
    replace hi : i ≤ gcN S := hi
    replace hP1 : va_P D vwCl ([mO cy mm ik (nI n) fm tz vl iw rm rr om, ia cy (mm 1) 169 S, ia cy (mm 4) 7 C]) H1 := hP1
    replace hD1 : va_D (va_A _ sz) ([mO cy mm ik (nI n) fm tz vl iw rm rr om, ia cy (mm 1) 169 S, ia cy (mm 4) 7 C]) := hD1
    replace hl3 : lv_has ls3 4 [(3, .int (nI i)), (2, .int (sm (fun g => if S (16 + 8 * g) = 0 then S (15 + 8 * g) else 0) i)), (0, .ref (mm 0)), (1, .int x1)] := hl3
    show W p l e _ s m _ below meth c _ _ _ _ _ (F0 m 134 ls3 [])
    refine lv_iload_n hx hb dX7_count_134 rfl (lv_at hl3 0 rfl) ?_
    refine lv_aload_n hx hb dX7_count_135 rfl (lv_at hl3 2 rfl) ?_
    refine va_get (D := D) (ci := 7) (v := .ref (mm 1)) (C := RX7) (T := TX7) (N := 23) hx hb hw iX7 hown hK hP1 0 rfl rfl 0 (by decide) (hw _ kw_4_64) (fun _ h9 => h9) rfl dX7_count_136 ?_
    refine lv_iconst (v := 1) hx hb dX7_count_139 (by decide) ?_
    refine ald_i (f := S) hx hb hK hP1 1 0 rfl rfl 1 rfl (by first | omega | assumption) (by decide) dX7_count_140 ?_
    refine tp (show (S 1) = nI (gcN S) from wf_g wf) ?_
    refine ln_ge (tgt := 175) i (gcN S) rfl rfl (by omega) (by omega) hx hb dX7_count_141 (by decide) (fun c_141 => ?_) (fun c_141 => ?_)
    · obtain rfl : i = gcN S := (by omega)
      refine lv_iload_n hx hb dX7_count_175 rfl (lv_at hl3 1 rfl) ?_
      have hcd : cCount x1 = 7 := by rw [c_3_6]; rfl
      have hq9 : ([mO cy mm ik (nI n) fm tz vl iw rm rr om, ia cy (mm 1) 169 S, ia cy (mm 4) 7 C]) = ([mO cy mm ik (nI n) fm tz vl iw rm rr om, ia cy (mm 1) 169 S, ia cy (mm 4) 7 (fnd C (cCount x1))]) := congrArg (fun z9 => [mO cy mm ik (nI n) fm tz vl iw rm rr om, ia cy (mm 1) 169 S, ia cy (mm 4) 7 z9]) (show C = (fnd C (cCount x1)) from fnd_o hcd)
      replace hP1 := (congrArg (fun z9 => va_P D vwCl z9 _) hq9).mp hP1
      replace hD1 := (congrArg (fun z9 => va_D _ z9) hq9).mp hD1
      clear hq9
      refine re_i () hx hb hr hlocks hP1 hD1 hS1 dX7_count_176 ?_
      exact (ans_o hcd (by rw [c_3_6]; rfl))
    · refine lv_iload_n hx hb dX7_count_144 rfl (lv_at hl3 1 rfl) ?_
      refine lv_aload_n hx hb dX7_count_145 rfl (lv_at hl3 2 rfl) ?_
      refine lv_iload_n hx hb dX7_count_146 rfl (lv_at hl3 0 rfl) ?_
      refine lv_bipush (v := 7) hx hb dX7_count_147 (by decide) ?_
      refine rV_i (wc := [mO cy mm ik (nI n) fm tz vl iw rm rr om, ia cy (mm 1) 169 S]) (rest := [.int (sm (fun g => if S (16 + 8 * g) = 0 then S (15 + 8 * g) else 0) i)]) hx hb hml hown hw hG hK hP1 hS1 hA hl3 kc_X7_has kw_4_174 [.int (nI i), .int 7] (c_X7_has l D cy G H1.size mm ik (nI n) fm tz vl iw rm rr om S i 7 (by first | omega | assumption) (by first | omega | assumption)) [0, 1] rfl 0 rfl rfl rfl rfl rfl (Nat.le_of_ble_eq_true rfl) ⟨Nat.le_of_ble_eq_true rfl, Nat.le_of_ble_eq_true rfl⟩ dX7_count_149 ⟨Nat.le_of_ble_eq_true rfl, Nat.le_of_ble_eq_true rfl⟩ (fun r_149 H2 locs2 hr_149 hP2 hS2 => ?_)
      have hD2 := hD1
      clear hP1 hD1 hS1 locs1 H1
      subst hr_149
      refine tp (show (S (9 + 8 * i + 7)) = S (16 + 8 * i) from congrArg _ (by omega)) ?_
      refine lv_iconst (v := 1) hx hb dX7_count_152 (by decide) ?_
      refine lv_icmp_ne (tgt := 160) hx hb dX7_count_153 (by decide) (fun c_153 => ?_) (fun c_153 => ?_)
      · refine lv_aload_n hx hb dX7_count_160 rfl (lv_at hl3 2 rfl) ?_
        refine lv_iload_n hx hb dX7_count_161 rfl (lv_at hl3 0 rfl) ?_
        refine lv_bipush (v := 6) hx hb dX7_count_162 (by decide) ?_
        refine rV_i (wc := [mO cy mm ik (nI n) fm tz vl iw rm rr om, ia cy (mm 1) 169 S]) (rest := [.int (sm (fun g => if S (16 + 8 * g) = 0 then S (15 + 8 * g) else 0) i)]) hx hb hml hown hw hG hK hP2 hS2 hA hl3 kc_X7_has kw_4_174 [.int (nI i), .int 6] (c_X7_has l D cy G H2.size mm ik (nI n) fm tz vl iw rm rr om S i 6 (by first | omega | assumption) (by first | omega | assumption)) [0, 1] rfl 0 rfl rfl rfl rfl rfl (Nat.le_of_ble_eq_true rfl) ⟨Nat.le_of_ble_eq_true rfl, Nat.le_of_ble_eq_true rfl⟩ dX7_count_164 ⟨Nat.le_of_ble_eq_true rfl, Nat.le_of_ble_eq_true rfl⟩ (fun r_164 H3 locs3 hr_164 hP3 hS3 => ?_)
        have hD3 := hD2
        clear hP2 hD2 hS2 locs2 H2
        subst hr_164
        refine tp (show (S (9 + 8 * i + 6)) = S (15 + 8 * i) from congrArg _ (by omega)) ?_
        refine lv_iadd hx hb dX7_count_167 ?_
        refine lv_istore_n (lv' := [(2, .int ((sm (fun g => if S (16 + 8 * g) = 0 then S (15 + 8 * g) else 0) i) + (S (15 + 8 * i)))), (3, .int (nI i)), (0, .ref (mm 0)), (1, .int x1)]) hx hb dX7_count_168 rfl hl3 (by decide) rfl (fun ls4 hl4 => ?_)
        clear hl3 ls3
        have h01 := (wf_can wf).2 i
        have hq9 : sm (fun g => if S (16 + 8 * g) = 0 then S (15 + 8 * g) else 0) (i + 1) = (sm (fun g => if S (16 + 8 * g) = 0 then S (15 + 8 * g) else 0) i) + (S (15 + 8 * i)) := by clear hx hb hml hown hr hlocks hw hsz hA hG hK hP3 hD3 hS3 hl4 ih_134; simp only [sm]; grind
        replace hl4 : lv_has ls4 4 [(2, .int (sm (fun g => if S (16 + 8 * g) = 0 then S (15 + 8 * g) else 0) (i + 1))), (3, .int (nI i)), (0, .ref (mm 0)), (1, .int x1)] := (congrArg (fun z9 => lv_has ls4 4 [(2, .int z9), (3, .int (nI i)), (0, .ref (mm 0)), (1, .int x1)]) hq9).mpr hl4
        clear hq9
        refine lv_iinc (v := nI (i + 1)) (lv' := [(3, .int (nI (i + 1))), (2, .int (sm (fun g => if S (16 + 8 * g) = 0 then S (15 + 8 * g) else 0) (i + 1))), (0, .ref (mm 0)), (1, .int x1)]) hx hb dX7_count_169 hl4 (k := 1) rfl (nI_inc _) (by decide) rfl (fun ls5 hl5 => ?_)
        clear hl4 ls4
        refine lv_goto (tgt := 134) hx hb dX7_count_172 (by decide) ?_
        exact ih_134 (i + 1) (by first | omega | assumption | rfl | simp_all) (by (try dsimp only); omega) H3 locs3 ls5 hP3 hD3 hS3 (lv_sub hl5 [0, 1, 2, 3] rfl)
      · refine lv_iconst (v := 0) hx hb dX7_count_156 (by decide) ?_
        refine lv_goto (tgt := 167) hx hb dX7_count_157 (by decide) ?_
        refine lv_iadd hx hb dX7_count_167 ?_
        refine lv_istore_n (lv' := [(2, .int ((sm (fun g => if S (16 + 8 * g) = 0 then S (15 + 8 * g) else 0) i) + 0)), (3, .int (nI i)), (0, .ref (mm 0)), (1, .int x1)]) hx hb dX7_count_168 rfl hl3 (by decide) rfl (fun ls4 hl4 => ?_)
        clear hl3 ls3
        have h01 := (wf_can wf).2 i
        have hq9 : sm (fun g => if S (16 + 8 * g) = 0 then S (15 + 8 * g) else 0) (i + 1) = (sm (fun g => if S (16 + 8 * g) = 0 then S (15 + 8 * g) else 0) i) + 0 := by clear hx hb hml hown hr hlocks hw hsz hA hG hK hP2 hD2 hS2 hl4 ih_134; simp only [sm]; grind
        replace hl4 : lv_has ls4 4 [(2, .int (sm (fun g => if S (16 + 8 * g) = 0 then S (15 + 8 * g) else 0) (i + 1))), (3, .int (nI i)), (0, .ref (mm 0)), (1, .int x1)] := (congrArg (fun z9 => lv_has ls4 4 [(2, .int z9), (3, .int (nI i)), (0, .ref (mm 0)), (1, .int x1)]) hq9).mpr hl4
        clear hq9
        refine lv_iinc (v := nI (i + 1)) (lv' := [(3, .int (nI (i + 1))), (2, .int (sm (fun g => if S (16 + 8 * g) = 0 then S (15 + 8 * g) else 0) (i + 1))), (0, .ref (mm 0)), (1, .int x1)]) hx hb dX7_count_169 hl4 (k := 1) rfl (nI_inc _) (by decide) rfl (fun ls5 hl5 => ?_)
        clear hl4 ls4
        refine lv_goto (tgt := 134) hx hb dX7_count_172 (by decide) ?_
        exact ih_134 (i + 1) (by first | omega | assumption | rfl | simp_all) (by (try dsimp only); omega) H2 locs2 ls5 hP2 hD2 hS2 (lv_sub hl5 [0, 1, 2, 3] rfl)
  refine lv_tableOut (tgt := 177) hx hb dX7_count_3 (sw_out 0 6 (fun v h1 h2 e => ?_)) (by decide) ?_
  · have e := Int32.toInt_inj.mp (e.trans (show v = ((Int32.ofInt v).toInt) from by rcases (show v = 0 ∨ v = 1 ∨ v = 2 ∨ v = 3 ∨ v = 4 ∨ v = 5 ∨ v = 6 by omega) with rfl | rfl | rfl | rfl | rfl | rfl | rfl <;> rfl))
    rcases (show v = 0 ∨ v = 1 ∨ v = 2 ∨ v = 3 ∨ v = 4 ∨ v = 5 ∨ v = 6 by omega) with rfl | rfl | rfl | rfl | rfl | rfl | rfl
    · exact c_3_0 e
    · exact c_3_1 e
    · exact c_3_2 e
    · exact c_3_3 e
    · exact c_3_4 e
    · exact c_3_5 e
    · exact c_3_6 e
  · refine lv_aload_n hx hb dX7_count_177 rfl (lv_at hl1 1 rfl) ?_
    refine lv_ldc (v := (-1000000001)) hx hb hown (hw _ kw_4_143) dX7_count_178 ?_
    refine cV_i (wc := [mO cy mm ik (nI n) fm tz vl iw rm rr om, ia cy (mm 4) 7 C]) (wr := [ia cy (mm 1) 169 S]) (rest := []) hx hb hml hown hw hG hK hP0 hD0 hS0 hA hl1 kc_X7_finds kw_4_139 [.int (-1000000001)] (c_X7_finds l D cy G H0.size mm ik (nI n) fm tz vl iw rm rr om C 0 (-1000000001) (by decide) (by decide)) [0, 2] [1] rfl rfl rfl rfl rfl 0 rfl rfl rfl rfl rfl (Nat.le_of_ble_eq_true rfl) ⟨Nat.le_of_ble_eq_true rfl, Nat.le_of_ble_eq_true rfl⟩ dX7_count_180 ⟨Nat.le_of_ble_eq_true rfl, Nat.le_of_ble_eq_true rfl⟩ (fun r_180 u9 H1 locs1 hu9 hP1 hD1 hS1 => ?_)
    clear hP0 hD0 hS0 locs0 H0
    have hr_180 := hu9
    replace hP1 : va_P D vwCl ([ia cy (mm 1) 169 S, mO cy mm ik (nI n) fm tz vl iw rm rr om, ia cy (mm 4) 7 (upd C 0 (C 0 + 1))]) H1 := hP1
    replace hD1 : va_D (va_A _ sz) ([ia cy (mm 1) 169 S, mO cy mm ik (nI n) fm tz vl iw rm rr om, ia cy (mm 4) 7 (upd C 0 (C 0 + 1))]) := hD1
    replace hP1 := hP1.sub (ws' := [mO cy mm ik (nI n) fm tz vl iw rm rr om, ia cy (mm 1) 169 S, ia cy (mm 4) 7 (upd C 0 (C 0 + 1))]) [1, 0, 2] rfl
    replace hD1 := hD1.sub (ws' := [mO cy mm ik (nI n) fm tz vl iw rm rr om, ia cy (mm 1) 169 S, ia cy (mm 4) 7 (upd C 0 (C 0 + 1))]) [1, 0, 2] (by decide) rfl
    subst hr_180
    have hcd : cCount x1 = 0 := cCount_0 c_3_0 c_3_1 c_3_2 c_3_3 c_3_4 c_3_5 c_3_6
    have hq9 : ([mO cy mm ik (nI n) fm tz vl iw rm rr om, ia cy (mm 1) 169 S, ia cy (mm 4) 7 (upd C 0 (C 0 + 1))]) = ([mO cy mm ik (nI n) fm tz vl iw rm rr om, ia cy (mm 1) 169 S, ia cy (mm 4) 7 (fnd C (cCount x1))]) := congrArg (fun z9 => [mO cy mm ik (nI n) fm tz vl iw rm rr om, ia cy (mm 1) 169 S, ia cy (mm 4) 7 z9]) (show (upd C 0 (C 0 + 1)) = (fnd C (cCount x1)) from fnd_f hcd (by decide))
    replace hP1 := (congrArg (fun z9 => va_P D vwCl z9 _) hq9).mp hP1
    replace hD1 := (congrArg (fun z9 => va_D _ z9) hq9).mp hD1
    clear hq9
    refine re_i () hx hb hr hlocks hP1 hD1 hS1 dX7_count_183 ?_
    exact (ans_f hcd (by decide) rfl)

theorem kc_X7_status : kV yX7_status cX7_status 4 (some .int) 1 := ⟨kw_6_5, kw_6_6, kw_1_8, kw_6_7, by decide, by decide, by decide +kernel⟩
set_option maxHeartbeats 4000000 in
set_option maxRecDepth 100000 in
theorem c_X7_status (l : Launch) (D : va_G) (cy : Nat → ClassId) (G : Nat → Nat) (sz : Nat) (mm : Nat → Nat) (ik : Int32) (tl : Int32) (fm : Int32) (tz : Int32) (vl : Int32) (iw : Int32) (rm : Int32) (rr : Int32) (om : Int32) (C : Nat → Int32) (x1 : Int32)  : Met l yX7_status (wm yX7_status cX7_status 4 (some .int)) { frames := 1, cells := 0, slots := 0, locals := 25 } (va_Pc [.ref (mm 0), .int x1] (pr D (TY cy) G ([mO cy mm ik tl fm tz vl iw rm rr om, ia cy (mm 4) 7 C]) sz)) (va_Qi (fun (r : Int32) (u : Unit) => r = ans (cStatus x1) (vStatus C x1)) (fun (u : Unit) t => po D (va_A ([mO cy mm ik tl fm tz vl iw rm rr om, ia cy (mm 4) 7 C]) sz) ([mO cy mm ik tl fm tz vl iw rm rr om, ia cy (mm 4) 7 (fnd C (cStatus x1))]) t) (va_A ([mO cy mm ik tl fm tz vl iw rm rr om, ia cy (mm 4) 7 C]) sz)) 0 0 (va_A ([mO cy mm ik tl fm tz vl iw rm rr om, ia cy (mm 4) 7 C]) sz) := by
  refine mk_rw (by decide) RX7 rfl (Nat.le_of_ble_eq_true rfl) [(0, .ref (mm 0)), (1, .int x1)] rfl ?_
  intro p e s m below meth c hx hb hml hown hr hlocks hin hw hsz hA hG hK H0 locs0 hP0 hD0 hS0 ls0 hl0
  clear hin
  refine lv_iload_n hx hb dX7_status_0 rfl (lv_at hl0 1 rfl) ?_
  refine lv_i2l hx hb dX7_status_1 rfl ?_
  refine lv_ldc2 (v := (-1)) hx hb hown (hw _ kw_6_8) dX7_status_2 ?_
  refine lv_ldc2 (v := 6) hx hb hown (hw _ kw_6_9) dX7_status_5 ?_
  refine rT_i (wc := []) (rest := []) hx hb hml hown hw hG hK hP0 hS0 hA hl0 kc_X7_in kw_4_153 [.long x1.toInt64, .long (-1), .long 6] (c_X7_in l D cy G H0.size x1.toInt64 (-1) 6) [] rfl rfl rfl (Nat.le_of_ble_eq_true rfl) ⟨Nat.le_of_ble_eq_true rfl, Nat.le_of_ble_eq_true rfl⟩ dX7_status_8 ⟨Nat.le_of_ble_eq_true rfl, Nat.le_of_ble_eq_true rfl⟩ (fun r_8 H1 locs1 hr_8 hP1 hS1 => ?_)
  have hD1 := hD0
  clear hP0 hD0 hS0 locs0 H0
  subst hr_8
  refine tp (show (b2i ((-1) ≤ x1.toInt64 ∧ x1.toInt64 ≤ 6)) = b2i ((-1) ≤ x1 ∧ x1 ≤ 6) from b2i_iff (in_c (by decide) (by decide))) ?_
  refine lb_ne (tgt := 21) hx hb dX7_status_11 (by decide) (fun c_11 => ?_) (fun c_11 => ?_)
  · refine lv_iconst (v := 0) hx hb dX7_status_21 (by decide) ?_
    refine lv_istore_n (lv' := [(2, .int 0), (0, .ref (mm 0)), (1, .int x1)]) hx hb dX7_status_22 rfl hl0 (by decide) rfl (fun ls1 hl1 => ?_)
    clear hl0 ls0
    refine lv_iconst (v := 0) hx hb dX7_status_23 (by decide) ?_
    refine lv_istore_n (lv' := [(3, .int 0), (2, .int 0), (0, .ref (mm 0)), (1, .int x1)]) hx hb dX7_status_24 rfl hl1 (by decide) rfl (fun ls2 hl2 => ?_)
    clear hl1 ls1
    have hq9 : onl C x1 0 = 0 := rfl
    replace hl2 : lv_has ls2 4 [(3, .int 0), (2, .int (onl C x1 0)), (0, .ref (mm 0)), (1, .int x1)] := (congrArg (fun z9 => lv_has ls2 4 [(3, .int 0), (2, .int z9), (0, .ref (mm 0)), (1, .int x1)]) hq9).mpr hl2
    clear hq9
    refine wlp (ι := Nat) (nL := 4) (fun x9 => (x9 ≤ 7)) (fun x9 => [mO cy mm ik tl fm tz vl iw rm rr om, ia cy (mm 4) 7 C]) (fun x9 => [(3, .int (nI x9)), (2, .int (onl C x1 x9)), (0, .ref (mm 0)), (1, .int x1)]) (fun x9 => []) (fun x9 => 7 - x9) 25 ?_ 0 (by first | omega | assumption | rfl | simp_all) rfl hP1 hD1 hS1 (lv_sub hl2 [0, 1, 2, 3] rfl)
    clear hP1 hD1 hS1 locs1 H1 hl2 ls2
    intro x9 hI ih_25 H2 locs2 ls3 hP2 hD2 hS2 hl3
    obtain ⟨i, rfl⟩ : ∃ z9, z9 = x9 := ⟨_, rfl⟩
    have hi := hI
    replace hi : i ≤ 7 := hi
    replace hP2 : va_P D vwCl ([mO cy mm ik tl fm tz vl iw rm rr om, ia cy (mm 4) 7 C]) H2 := hP2
    replace hD2 : va_D (va_A _ sz) ([mO cy mm ik tl fm tz vl iw rm rr om, ia cy (mm 4) 7 C]) := hD2
    replace hl3 : lv_has ls3 4 [(3, .int (nI i)), (2, .int (onl C x1 i)), (0, .ref (mm 0)), (1, .int x1)] := hl3
    show W p l e _ s m _ below meth c _ _ _ _ _ (F0 m 25 ls3 [])
    refine lv_iload_n hx hb dX7_status_25 rfl (lv_at hl3 0 rfl) ?_
    refine lv_bipush (v := 7) hx hb dX7_status_26 (by decide) ?_
    refine ln_ge (tgt := 59) i 7 rfl rfl (by omega) (by omega) hx hb dX7_status_28 (by decide) (fun c_28 => ?_) (fun c_28 => ?_)
    · obtain rfl : i = 7 := (by omega)
      refine lv_iload_n hx hb dX7_status_59 rfl (lv_at hl3 1 rfl) ?_
      have hcd : cStatus x1 = 7 := by unfold cStatus; clear hx hb hml hown hr hlocks hw hsz hA hG hK hP2 hD2 hS2 hl3 ih_25; grind
      have hq9 : ([mO cy mm ik tl fm tz vl iw rm rr om, ia cy (mm 4) 7 C]) = ([mO cy mm ik tl fm tz vl iw rm rr om, ia cy (mm 4) 7 (fnd C (cStatus x1))]) := congrArg (fun z9 => [mO cy mm ik tl fm tz vl iw rm rr om, ia cy (mm 4) 7 z9]) (show C = (fnd C (cStatus x1)) from fnd_o hcd)
      replace hP2 := (congrArg (fun z9 => va_P D vwCl z9 _) hq9).mp hP2
      replace hD2 := (congrArg (fun z9 => va_D _ z9) hq9).mp hD2
      clear hq9
      refine re_i () hx hb hr hlocks hP2 hD2 hS2 dX7_status_60 ?_
      exact (ans_o hcd (onl_v c_11))
    · refine lv_iload_n hx hb dX7_status_31 rfl (lv_at hl3 1 rfl) ?_
      refine lv_iload_n hx hb dX7_status_32 rfl (lv_at hl3 3 rfl) ?_
      refine lv_if_lt (tgt := 41) hx hb dX7_status_33 (by decide) (fun c_33 => ?_) (fun c_33 => ?_)
      · refine lv_aload_n hx hb dX7_status_41 rfl (lv_at hl3 2 rfl) ?_
        refine va_get (D := D) (ci := 7) (v := .ref (mm 4)) (C := RX7) (T := TX7) (N := 23) hx hb hw iX7 hown hK hP2 0 rfl rfl 3 (by decide) (hw _ kw_4_67) (fun _ h9 => h9) rfl dX7_status_42 ?_
        refine lv_iload_n hx hb dX7_status_45 rfl (lv_at hl3 0 rfl) ?_
        refine ald_i (f := C) hx hb hK hP2 1 0 rfl rfl i rfl (by first | omega | assumption) (by decide) dX7_status_46 ?_
        refine lv_goto (tgt := 51) hx hb dX7_status_47 (by decide) ?_
        refine lv_iadd hx hb dX7_status_51 ?_
        refine lv_istore_n (lv' := [(2, .int ((onl C x1 i) + (C i))), (3, .int (nI i)), (0, .ref (mm 0)), (1, .int x1)]) hx hb dX7_status_52 rfl hl3 (by decide) rfl (fun ls4 hl4 => ?_)
        clear hl3 ls3
        have hq9 : onl C x1 (i + 1) = (onl C x1 i) + (C i) := by simp only [onl]; clear hx hb hml hown hr hlocks hw hsz hA hG hK hP2 hD2 hS2 hl4 ih_25; grind
        replace hl4 : lv_has ls4 4 [(2, .int (onl C x1 (i + 1))), (3, .int (nI i)), (0, .ref (mm 0)), (1, .int x1)] := (congrArg (fun z9 => lv_has ls4 4 [(2, .int z9), (3, .int (nI i)), (0, .ref (mm 0)), (1, .int x1)]) hq9).mpr hl4
        clear hq9
        refine lv_iinc (v := nI (i + 1)) (lv' := [(3, .int (nI (i + 1))), (2, .int (onl C x1 (i + 1))), (0, .ref (mm 0)), (1, .int x1)]) hx hb dX7_status_53 hl4 (k := 1) rfl (nI_inc _) (by decide) rfl (fun ls5 hl5 => ?_)
        clear hl4 ls4
        refine lv_goto (tgt := 25) hx hb dX7_status_56 (by decide) ?_
        exact ih_25 (i + 1) (by first | omega | assumption | rfl | simp_all) (by (try dsimp only); omega) H2 locs2 ls5 hP2 hD2 hS2 (lv_sub hl5 [0, 1, 2, 3] rfl)
      · refine lv_iload_n hx hb dX7_status_36 rfl (lv_at hl3 0 rfl) ?_
        refine lv_iload_n hx hb dX7_status_37 rfl (lv_at hl3 3 rfl) ?_
        refine lv_icmp_ne (tgt := 50) hx hb dX7_status_38 (by decide) (fun c_38 => ?_) (fun c_38 => ?_)
        · refine lv_iconst (v := 0) hx hb dX7_status_50 (by decide) ?_
          refine lv_iadd hx hb dX7_status_51 ?_
          refine lv_istore_n (lv' := [(2, .int ((onl C x1 i) + 0)), (3, .int (nI i)), (0, .ref (mm 0)), (1, .int x1)]) hx hb dX7_status_52 rfl hl3 (by decide) rfl (fun ls4 hl4 => ?_)
          clear hl3 ls3
          have hq9 : onl C x1 (i + 1) = (onl C x1 i) + 0 := by simp only [onl]; clear hx hb hml hown hr hlocks hw hsz hA hG hK hP2 hD2 hS2 hl4 ih_25; grind
          replace hl4 : lv_has ls4 4 [(2, .int (onl C x1 (i + 1))), (3, .int (nI i)), (0, .ref (mm 0)), (1, .int x1)] := (congrArg (fun z9 => lv_has ls4 4 [(2, .int z9), (3, .int (nI i)), (0, .ref (mm 0)), (1, .int x1)]) hq9).mpr hl4
          clear hq9
          refine lv_iinc (v := nI (i + 1)) (lv' := [(3, .int (nI (i + 1))), (2, .int (onl C x1 (i + 1))), (0, .ref (mm 0)), (1, .int x1)]) hx hb dX7_status_53 hl4 (k := 1) rfl (nI_inc _) (by decide) rfl (fun ls5 hl5 => ?_)
          clear hl4 ls4
          refine lv_goto (tgt := 25) hx hb dX7_status_56 (by decide) ?_
          exact ih_25 (i + 1) (by first | omega | assumption | rfl | simp_all) (by (try dsimp only); omega) H2 locs2 ls5 hP2 hD2 hS2 (lv_sub hl5 [0, 1, 2, 3] rfl)
        · refine lv_aload_n hx hb dX7_status_41 rfl (lv_at hl3 2 rfl) ?_
          refine va_get (D := D) (ci := 7) (v := .ref (mm 4)) (C := RX7) (T := TX7) (N := 23) hx hb hw iX7 hown hK hP2 0 rfl rfl 3 (by decide) (hw _ kw_4_67) (fun _ h9 => h9) rfl dX7_status_42 ?_
          refine lv_iload_n hx hb dX7_status_45 rfl (lv_at hl3 0 rfl) ?_
          refine ald_i (f := C) hx hb hK hP2 1 0 rfl rfl i rfl (by first | omega | assumption) (by decide) dX7_status_46 ?_
          refine lv_goto (tgt := 51) hx hb dX7_status_47 (by decide) ?_
          refine lv_iadd hx hb dX7_status_51 ?_
          refine lv_istore_n (lv' := [(2, .int ((onl C x1 i) + (C i))), (3, .int (nI i)), (0, .ref (mm 0)), (1, .int x1)]) hx hb dX7_status_52 rfl hl3 (by decide) rfl (fun ls4 hl4 => ?_)
          clear hl3 ls3
          have hq9 : onl C x1 (i + 1) = (onl C x1 i) + (C i) := by simp only [onl]; clear hx hb hml hown hr hlocks hw hsz hA hG hK hP2 hD2 hS2 hl4 ih_25; grind
          replace hl4 : lv_has ls4 4 [(2, .int (onl C x1 (i + 1))), (3, .int (nI i)), (0, .ref (mm 0)), (1, .int x1)] := (congrArg (fun z9 => lv_has ls4 4 [(2, .int z9), (3, .int (nI i)), (0, .ref (mm 0)), (1, .int x1)]) hq9).mpr hl4
          clear hq9
          refine lv_iinc (v := nI (i + 1)) (lv' := [(3, .int (nI (i + 1))), (2, .int (onl C x1 (i + 1))), (0, .ref (mm 0)), (1, .int x1)]) hx hb dX7_status_53 hl4 (k := 1) rfl (nI_inc _) (by decide) rfl (fun ls5 hl5 => ?_)
          clear hl4 ls4
          refine lv_goto (tgt := 25) hx hb dX7_status_56 (by decide) ?_
          exact ih_25 (i + 1) (by first | omega | assumption | rfl | simp_all) (by (try dsimp only); omega) H2 locs2 ls5 hP2 hD2 hS2 (lv_sub hl5 [0, 1, 2, 3] rfl)
  · refine lv_aload_n hx hb dX7_status_14 rfl (lv_at hl0 0 rfl) ?_
    refine lv_ldc (v := (-1000000001)) hx hb hown (hw _ kw_4_143) dX7_status_15 ?_
    refine cV_i (wc := [mO cy mm ik tl fm tz vl iw rm rr om, ia cy (mm 4) 7 C]) (wr := []) (rest := []) hx hb hml hown hw hG hK hP1 hD1 hS1 hA hl0 kc_X7_finds kw_4_139 [.int (-1000000001)] (c_X7_finds l D cy G H1.size mm ik tl fm tz vl iw rm rr om C 0 (-1000000001) (by decide) (by decide)) [0, 1] [] rfl rfl rfl rfl rfl 0 rfl rfl rfl rfl rfl (Nat.le_of_ble_eq_true rfl) ⟨Nat.le_of_ble_eq_true rfl, Nat.le_of_ble_eq_true rfl⟩ dX7_status_17 ⟨Nat.le_of_ble_eq_true rfl, Nat.le_of_ble_eq_true rfl⟩ (fun r_17 u9 H2 locs2 hu9 hP2 hD2 hS2 => ?_)
    clear hP1 hD1 hS1 locs1 H1
    have hr_17 := hu9
    replace hP2 : va_P D vwCl ([mO cy mm ik tl fm tz vl iw rm rr om, ia cy (mm 4) 7 (upd C 0 (C 0 + 1))]) H2 := hP2
    replace hD2 : va_D (va_A _ sz) ([mO cy mm ik tl fm tz vl iw rm rr om, ia cy (mm 4) 7 (upd C 0 (C 0 + 1))]) := hD2
    subst hr_17
    have hcd : cStatus x1 = 0 := by unfold cStatus; clear hx hb hml hown hr hlocks hw hsz hA hG hK hP2 hD2 hS2 hl0; grind
    have hq9 : ([mO cy mm ik tl fm tz vl iw rm rr om, ia cy (mm 4) 7 (upd C 0 (C 0 + 1))]) = ([mO cy mm ik tl fm tz vl iw rm rr om, ia cy (mm 4) 7 (fnd C (cStatus x1))]) := congrArg (fun z9 => [mO cy mm ik tl fm tz vl iw rm rr om, ia cy (mm 4) 7 z9]) (show (upd C 0 (C 0 + 1)) = (fnd C (cStatus x1)) from fnd_f hcd (by decide))
    replace hP2 := (congrArg (fun z9 => va_P D vwCl z9 _) hq9).mp hP2
    replace hD2 := (congrArg (fun z9 => va_D _ z9) hq9).mp hD2
    clear hq9
    refine re_i () hx hb hr hlocks hP2 hD2 hS2 dX7_status_20 ?_
    exact (ans_f hcd (by decide) rfl)
