theorem kc_X7_byteAt : kV yX7_byteAt cX7_byteAt 2 (some .int) 1 := ⟨kw_4_237, kw_s_37, kw_1_8, kw_4_238, by decide, by decide, by decide +kernel⟩
set_option maxHeartbeats 4000000 in
set_option maxRecDepth 100000 in
theorem c_X7_byteAt (l : Launch) (D : va_G) (cy : Nat → ClassId) (G : Nat → Nat) (sz : Nat) (mm : Nat → Nat) (ik : Int32) (fm : Int32) (tz : Int32) (vl : Int32) (iw : Int32) (rm : Int32) (rr : Int32) (om : Int32) (n : Nat) (T : Nat → Int32) (k : Nat) (hn : n ≤ 120) (hk : k < 1000) : Met l yX7_byteAt (wm yX7_byteAt cX7_byteAt 2 (some .int)) { frames := 0, cells := 0, slots := 0, locals := 0 } (va_Pc [.ref (mm 0), .int (nI k)] (pd D (TY cy) G ([mO cy mm ik (nI n) fm tz vl iw rm rr om, ia cy (mm 5) 120 T]) sz)) (va_Qi (fun r (_ : Unit) => r = bt T n k) (fun _ _ => True) (va_A [] sz)) 0 0 (va_A [] sz) := by
  refine mk_rd (by decide) RX7 rfl (Nat.le_of_ble_eq_true rfl) [(0, .ref (mm 0)), (1, .int (nI k))] rfl ?_
  intro p e s m below meth c hx hb hml hown hr hlocks hw hsz hA hG hK H0 locs0 hP0 hS0 ls0 hl0
  refine lv_iload_n hx hb dX7_byteAt_0 rfl (lv_at hl0 1 rfl) ?_
  refine lv_aload_n hx hb dX7_byteAt_1 rfl (lv_at hl0 0 rfl) ?_
  refine va_get (D := D) (ci := 7) (v := .int (nI n)) (C := RX7) (T := TX7) (N := 23) hx hb hw iX7 hown hK hP0 0 rfl rfl 6 (by decide) (hw _ kw_4_70) (fun _ h9 => h9) rfl dX7_byteAt_2 ?_
  refine ln_ge (tgt := 17) k n rfl rfl (by omega) (by omega) hx hb dX7_byteAt_5 (by decide) (fun c_5 => ?_) (fun c_5 => ?_)
  · refine lv_iconst (v := (-1)) hx hb dX7_byteAt_17 (by decide) ?_
    exact rd_i hx hb hr hlocks hS0 dX7_byteAt_18 (by unfold bt; clear hx hb hml hown hr hlocks hw hsz hA hG hK hP0 hS0 hl0; grind)
  · refine lv_aload_n hx hb dX7_byteAt_8 rfl (lv_at hl0 0 rfl) ?_
    refine va_get (D := D) (ci := 7) (v := .ref (mm 5)) (C := RX7) (T := TX7) (N := 23) hx hb hw iX7 hown hK hP0 0 rfl rfl 5 (by decide) (hw _ kw_4_69) (fun _ h9 => h9) rfl dX7_byteAt_9 ?_
    refine lv_iload_n hx hb dX7_byteAt_12 rfl (lv_at hl0 1 rfl) ?_
    refine ald_i (f := T) hx hb hK hP0 1 0 rfl rfl k rfl (by first | omega | assumption) (by decide) dX7_byteAt_13 ?_
    refine lv_goto (tgt := 18) hx hb dX7_byteAt_14 (by decide) ?_
    exact rd_i hx hb hr hlocks hS0 dX7_byteAt_18 (by unfold bt; clear hx hb hml hown hr hlocks hw hsz hA hG hK hP0 hS0 hl0; grind)

theorem kc_X7_isLetter : kT yX7_isLetter cX7_isLetter 1 (some .boolean) 1 := ⟨kw_5_0, kw_1_8, kw_5_1, by decide, by decide, by decide +kernel⟩
set_option maxHeartbeats 4000000 in
set_option maxRecDepth 100000 in
theorem c_X7_isLetter (l : Launch) (D : va_G) (cy : Nat → ClassId) (G : Nat → Nat) (sz : Nat) (f : Int32)  : Met l yX7_isLetter (wm yX7_isLetter cX7_isLetter 1 (some .boolean)) { frames := 1, cells := 0, slots := 0, locals := 25 } (va_Pc [.int f] (pd D (TY cy) G ([]) sz)) (va_Qi (fun r (_ : Unit) => r = b2i (97 ≤ f ∧ f ≤ 122)) (fun _ _ => True) (va_A [] sz)) 0 0 (va_A [] sz) := by
  refine mk_rd (by decide) RX7 rfl (Nat.le_of_ble_eq_true rfl) [(0, .int f)] rfl ?_
  intro p e s m below meth c hx hb hml hown hr hlocks hw hsz hA hG hK H0 locs0 hP0 hS0 ls0 hl0
  refine lv_iload_n hx hb dX7_isLetter_0 rfl (lv_at hl0 0 rfl) ?_
  refine lv_i2l hx hb dX7_isLetter_1 rfl ?_
  refine lv_ldc2 (v := 97) hx hb hown (hw _ kw_5_2) dX7_isLetter_2 ?_
  refine lv_ldc2 (v := 122) hx hb hown (hw _ kw_5_3) dX7_isLetter_5 ?_
  refine rT_i (wc := []) (rest := []) hx hb hml hown hw hG hK hP0 hS0 hA hl0 kc_X7_in kw_4_153 [.long f.toInt64, .long 97, .long 122] (c_X7_in l D cy G H0.size f.toInt64 97 122) [] rfl rfl rfl (Nat.le_of_ble_eq_true rfl) ⟨Nat.le_of_ble_eq_true rfl, Nat.le_of_ble_eq_true rfl⟩ dX7_isLetter_8 ⟨Nat.le_of_ble_eq_true rfl, Nat.le_of_ble_eq_true rfl⟩ (fun r_8 H1 locs1 hr_8 hP1 hS1 => ?_)
  clear hP0 hS0 locs0 H0
  subst hr_8
  refine tp (show (b2i (97 ≤ f.toInt64 ∧ f.toInt64 ≤ 122)) = b2i (97 ≤ f ∧ f ≤ 122) from b2i_iff (in_c (by decide) (by decide))) ?_
  exact rd_z hx hb hr hlocks hS1 dX7_isLetter_11 (b2i_z _) (rfl)

theorem kc_X7_isDigit : kT yX7_isDigit cX7_isDigit 1 (some .boolean) 1 := ⟨kw_5_5, kw_1_8, kw_5_6, by decide, by decide, by decide +kernel⟩
set_option maxHeartbeats 4000000 in
set_option maxRecDepth 100000 in
theorem c_X7_isDigit (l : Launch) (D : va_G) (cy : Nat → ClassId) (G : Nat → Nat) (sz : Nat) (f : Int32)  : Met l yX7_isDigit (wm yX7_isDigit cX7_isDigit 1 (some .boolean)) { frames := 1, cells := 0, slots := 0, locals := 25 } (va_Pc [.int f] (pd D (TY cy) G ([]) sz)) (va_Qi (fun r (_ : Unit) => r = b2i (48 ≤ f ∧ f ≤ 57)) (fun _ _ => True) (va_A [] sz)) 0 0 (va_A [] sz) := by
  refine mk_rd (by decide) RX7 rfl (Nat.le_of_ble_eq_true rfl) [(0, .int f)] rfl ?_
  intro p e s m below meth c hx hb hml hown hr hlocks hw hsz hA hG hK H0 locs0 hP0 hS0 ls0 hl0
  refine lv_iload_n hx hb dX7_isDigit_0 rfl (lv_at hl0 0 rfl) ?_
  refine lv_i2l hx hb dX7_isDigit_1 rfl ?_
  refine lv_ldc2 (v := 48) hx hb hown (hw _ kw_5_7) dX7_isDigit_2 ?_
  refine lv_ldc2 (v := 57) hx hb hown (hw _ kw_5_8) dX7_isDigit_5 ?_
  refine rT_i (wc := []) (rest := []) hx hb hml hown hw hG hK hP0 hS0 hA hl0 kc_X7_in kw_4_153 [.long f.toInt64, .long 48, .long 57] (c_X7_in l D cy G H0.size f.toInt64 48 57) [] rfl rfl rfl (Nat.le_of_ble_eq_true rfl) ⟨Nat.le_of_ble_eq_true rfl, Nat.le_of_ble_eq_true rfl⟩ dX7_isDigit_8 ⟨Nat.le_of_ble_eq_true rfl, Nat.le_of_ble_eq_true rfl⟩ (fun r_8 H1 locs1 hr_8 hP1 hS1 => ?_)
  clear hP0 hS0 locs0 H0
  subst hr_8
  refine tp (show (b2i (48 ≤ f.toInt64 ∧ f.toInt64 ≤ 57)) = b2i (48 ≤ f ∧ f ≤ 57) from b2i_iff (in_c (by decide) (by decide))) ?_
  exact rd_z hx hb hr hlocks hS1 dX7_isDigit_11 (b2i_z _) (rfl)

theorem kc_X7_next : kV yX7_next cX7_next 3 none 0 := ⟨kw_4_233, kw_s_36, kw_1_8, kw_4_234, by decide, by decide, by decide +kernel⟩
set_option maxHeartbeats 4000000 in
set_option maxRecDepth 100000 in
theorem c_X7_next (l : Launch) (D : va_G) (cy : Nat → ClassId) (G : Nat → Nat) (sz : Nat) (mm : Nat → Nat) (ik : Int32) (fm : Int32) (vl : Int32) (iw : Int32) (rm : Int32) (rr : Int32) (om : Int32) (n : Nat) (T : Nat → Int32) (e1 : Nat) (hn : n ≤ 120) (he : e1 ≤ n) : Met l yX7_next (wm yX7_next cX7_next 3 none) { frames := 2, cells := 0, slots := 0, locals := 45 } (va_Pc [.ref (mm 0)] (pr D (TY cy) G ([mO cy mm ik (nI n) fm (nI e1) vl iw rm rr om, ia cy (mm 5) 120 T]) sz)) (va_Qv (fun (u : Unit) => True) (fun (u : Unit) t => po D (va_A ([mO cy mm ik (nI n) fm (nI e1) vl iw rm rr om, ia cy (mm 5) 120 T]) sz) ([mO cy mm ik (nI n) (nI (skp T n e1)) (nI (te T n (skp T n e1))) vl iw rm rr om, ia cy (mm 5) 120 T]) t) (va_A ([mO cy mm ik (nI n) fm (nI e1) vl iw rm rr om, ia cy (mm 5) 120 T]) sz)) 0 0 (va_A ([mO cy mm ik (nI n) fm (nI e1) vl iw rm rr om, ia cy (mm 5) 120 T]) sz) := by
  refine mk_rw (by decide) RX7 rfl (Nat.le_of_ble_eq_true rfl) [(0, .ref (mm 0))] rfl ?_
  intro p e s m below meth c hx hb hml hown hr hlocks hin hw hsz hA hG hK H0 locs0 hP0 hD0 hS0 ls0 hl0
  clear hin
  refine lv_aload_n hx hb dX7_next_0 rfl (lv_at hl0 0 rfl) ?_
  refine lv_aload_n hx hb dX7_next_1 rfl (lv_at hl0 0 rfl) ?_
  refine va_get (D := D) (ci := 7) (v := .int (nI e1)) (C := RX7) (T := TX7) (N := 23) hx hb hw iX7 hown hK hP0 0 rfl rfl 8 (by decide) (hw _ kw_4_72) (fun _ h9 => h9) rfl dX7_next_2 ?_
  refine pt (D := D) (ci := 7) (v := .int (nI e1)) (ty := .int) (C := RX7) (T := TX7) (N := 23) (ws' := [mO cy mm ik (nI n) (nI e1) (nI e1) vl iw rm rr om, ia cy (mm 5) 120 T]) hx hb hw iX7 tyX7 tyX7_ok nmX7 hown hK hP0 hD0 hS0 0 rfl rfl 7 (by decide) kw_4_71 (fun _ h9 => h9) rfl (by decide +kernel) rfl rfl (Nat.le_of_ble_eq_true rfl) rfl dX7_next_5 (fun H1 locs1 hP1 hD1 hS1 => ?_)
  clear hP0 hD0 hS0 locs0 H0
  refine wlp (ι := Nat) (nL := 3) (fun x9 => (e1 ≤ x9) ∧ (x9 ≤ n) ∧ (∀ j, e1 ≤ j → j < x9 → bt T n j = 32)) (fun x9 => [mO cy mm ik (nI n) (nI x9) (nI e1) vl iw rm rr om, ia cy (mm 5) 120 T]) (fun x9 => [(0, .ref (mm 0))]) (fun x9 => []) (fun x9 => n - x9) 8 ?_ e1 (⟨Nat.le_refl _, (by omega), fun j9 a9 b9 => absurd b9 (by omega)⟩) rfl hP1 hD1 hS1 (lv_sub hl0 [0] rfl)
  clear hP1 hD1 hS1 locs1 H1 hl0 ls0
  intro x9 hI ih_8 H2 locs2 ls1 hP2 hD2 hS2 hl1
  obtain ⟨k, rfl⟩ : ∃ z9, z9 = x9 := ⟨_, rfl⟩
  obtain ⟨h1, h2, hall⟩ := hI
  replace h1 : e1 ≤ k := h1
  replace h2 : k ≤ n := h2
  replace hall : ∀ j, e1 ≤ j → j < k → bt T n j = 32 := hall
  replace hP2 : va_P D vwCl ([mO cy mm ik (nI n) (nI k) (nI e1) vl iw rm rr om, ia cy (mm 5) 120 T]) H2 := hP2
  replace hD2 : va_D (va_A _ sz) ([mO cy mm ik (nI n) (nI k) (nI e1) vl iw rm rr om, ia cy (mm 5) 120 T]) := hD2
  replace hl1 : lv_has ls1 3 [(0, .ref (mm 0))] := hl1
  show W p l e _ s m _ below meth c _ _ _ _ _ (F0 m 8 ls1 [])
  refine lv_aload_n hx hb dX7_next_8 rfl (lv_at hl1 0 rfl) ?_
  refine lv_aload_n hx hb dX7_next_9 rfl (lv_at hl1 0 rfl) ?_
  refine va_get (D := D) (ci := 7) (v := .int (nI k)) (C := RX7) (T := TX7) (N := 23) hx hb hw iX7 hown hK hP2 0 rfl rfl 7 (by decide) (hw _ kw_4_71) (fun _ h9 => h9) rfl dX7_next_10 ?_
  refine rV_i (wc := [mO cy mm ik (nI n) (nI k) (nI e1) vl iw rm rr om, ia cy (mm 5) 120 T]) (rest := []) hx hb hml hown hw hG hK hP2 hS2 hA hl1 kc_X7_byteAt kw_4_235 [.int (nI k)] (c_X7_byteAt l D cy G H2.size mm ik (nI k) (nI e1) vl iw rm rr om n T k (by first | omega | assumption) (by first | omega | assumption)) [0, 1] rfl 0 rfl rfl rfl rfl rfl (Nat.le_of_ble_eq_true rfl) ⟨Nat.le_of_ble_eq_true rfl, Nat.le_of_ble_eq_true rfl⟩ dX7_next_13 ⟨Nat.le_of_ble_eq_true rfl, Nat.le_of_ble_eq_true rfl⟩ (fun r_13 H3 locs3 hr_13 hP3 hS3 => ?_)
  have hD3 := hD2
  clear hP2 hD2 hS2 locs2 H2
  subst hr_13
  refine lv_bipush (v := 32) hx hb dX7_next_16 (by decide) ?_
  refine lv_icmp_ne (tgt := 34) hx hb dX7_next_18 (by decide) (fun c_18 => ?_) (fun c_18 => ?_)
  · have hsk : k = skp T n e1 := (skp_eq h1 h2 hall c_18).symm
    refine lv_aload_n hx hb dX7_next_34 rfl (lv_at hl1 0 rfl) ?_
    refine lv_aload_n hx hb dX7_next_35 rfl (lv_at hl1 0 rfl) ?_
    refine va_get (D := D) (ci := 7) (v := .int (nI k)) (C := RX7) (T := TX7) (N := 23) hx hb hw iX7 hown hK hP3 0 rfl rfl 7 (by decide) (hw _ kw_4_71) (fun _ h9 => h9) rfl dX7_next_36 ?_
    refine rV_i (wc := [mO cy mm ik (nI n) (nI k) (nI e1) vl iw rm rr om, ia cy (mm 5) 120 T]) (rest := []) hx hb hml hown hw hG hK hP3 hS3 hA hl1 kc_X7_byteAt kw_4_235 [.int (nI k)] (c_X7_byteAt l D cy G H3.size mm ik (nI k) (nI e1) vl iw rm rr om n T k (by first | omega | assumption) (by first | omega | assumption)) [0, 1] rfl 0 rfl rfl rfl rfl rfl (Nat.le_of_ble_eq_true rfl) ⟨Nat.le_of_ble_eq_true rfl, Nat.le_of_ble_eq_true rfl⟩ dX7_next_39 ⟨Nat.le_of_ble_eq_true rfl, Nat.le_of_ble_eq_true rfl⟩ (fun r_39 H4 locs4 hr_39 hP4 hS4 => ?_)
    have hD4 := hD3
    clear hP3 hD3 hS3 locs3 H3
    subst hr_39
    refine rT_i (wc := []) (rest := []) hx hb hml hown hw hG hK hP4 hS4 hA hl1 kc_X7_isLetter kw_4_239 [.int (bt T n k)] (c_X7_isLetter l D cy G H4.size (bt T n k)) [] rfl rfl rfl (Nat.le_of_ble_eq_true rfl) ⟨Nat.le_of_ble_eq_true rfl, Nat.le_of_ble_eq_true rfl⟩ dX7_next_42 ⟨Nat.le_of_ble_eq_true rfl, Nat.le_of_ble_eq_true rfl⟩ (fun r_42 H5 locs5 hr_42 hP5 hS5 => ?_)
    have hD5 := hD4
    clear hP4 hD4 hS4 locs4 H4
    subst hr_42
    refine lv_istore_n (lv' := [(1, .int (b2i (97 ≤ (bt T n k) ∧ (bt T n k) ≤ 122))), (0, .ref (mm 0))]) hx hb dX7_next_45 rfl hl1 (by decide) rfl (fun ls2 hl2 => ?_)
    clear hl1 ls1
    refine lv_aload_n hx hb dX7_next_46 rfl (lv_at hl2 1 rfl) ?_
    refine lv_aload_n hx hb dX7_next_47 rfl (lv_at hl2 1 rfl) ?_
    refine va_get (D := D) (ci := 7) (v := .int (nI k)) (C := RX7) (T := TX7) (N := 23) hx hb hw iX7 hown hK hP5 0 rfl rfl 7 (by decide) (hw _ kw_4_71) (fun _ h9 => h9) rfl dX7_next_48 ?_
    refine rV_i (wc := [mO cy mm ik (nI n) (nI k) (nI e1) vl iw rm rr om, ia cy (mm 5) 120 T]) (rest := []) hx hb hml hown hw hG hK hP5 hS5 hA hl2 kc_X7_byteAt kw_4_235 [.int (nI k)] (c_X7_byteAt l D cy G H5.size mm ik (nI k) (nI e1) vl iw rm rr om n T k (by first | omega | assumption) (by first | omega | assumption)) [0, 1] rfl 0 rfl rfl rfl rfl rfl (Nat.le_of_ble_eq_true rfl) ⟨Nat.le_of_ble_eq_true rfl, Nat.le_of_ble_eq_true rfl⟩ dX7_next_51 ⟨Nat.le_of_ble_eq_true rfl, Nat.le_of_ble_eq_true rfl⟩ (fun r_51 H6 locs6 hr_51 hP6 hS6 => ?_)
    have hD6 := hD5
    clear hP5 hD5 hS5 locs5 H5
    subst hr_51
    refine rT_i (wc := []) (rest := []) hx hb hml hown hw hG hK hP6 hS6 hA hl2 kc_X7_isDigit kw_5_4 [.int (bt T n k)] (c_X7_isDigit l D cy G H6.size (bt T n k)) [] rfl rfl rfl (Nat.le_of_ble_eq_true rfl) ⟨Nat.le_of_ble_eq_true rfl, Nat.le_of_ble_eq_true rfl⟩ dX7_next_54 ⟨Nat.le_of_ble_eq_true rfl, Nat.le_of_ble_eq_true rfl⟩ (fun r_54 H7 locs7 hr_54 hP7 hS7 => ?_)
    have hD7 := hD6
    clear hP6 hD6 hS6 locs6 H6
    subst hr_54
    refine lv_istore_n (lv' := [(2, .int (b2i (48 ≤ (bt T n k) ∧ (bt T n k) ≤ 57))), (1, .int (b2i (97 ≤ (bt T n k) ∧ (bt T n k) ≤ 122))), (0, .ref (mm 0))]) hx hb dX7_next_57 rfl hl2 (by decide) rfl (fun ls3 hl3 => ?_)
    clear hl2 ls2
    by_cases hle : isL (bt T n k)
    · have h9hle := hle
      have hq9 : 1 = b2i (97 ≤ (bt T n k) ∧ (bt T n k) ≤ 122) := (b2i_t hle).symm
      replace hl3 : lv_has ls3 3 [(2, .int (b2i (48 ≤ (bt T n k) ∧ (bt T n k) ≤ 57))), (1, .int 1), (0, .ref (mm 0))] := (congrArg (fun z9 => lv_has ls3 3 [(2, .int (b2i (48 ≤ (bt T n k) ∧ (bt T n k) ≤ 57))), (1, .int z9), (0, .ref (mm 0))]) hq9).mpr hl3
      clear hq9
      have hq9 : 0 = b2i (48 ≤ (bt T n k) ∧ (bt T n k) ≤ 57) := (b2i_f (LD hle)).symm
      replace hl3 : lv_has ls3 3 [(2, .int 0), (1, .int 1), (0, .ref (mm 0))] := (congrArg (fun z9 => lv_has ls3 3 [(2, .int z9), (1, .int 1), (0, .ref (mm 0))]) hq9).mpr hl3
      clear hq9
      have hkn : k < n := Classical.byContradiction fun z9 => notL (by omega) hle
      refine lv_aload_n hx hb dX7_next_58 rfl (lv_at hl3 2 rfl) ?_
      refine lv_aload_n hx hb dX7_next_59 rfl (lv_at hl3 2 rfl) ?_
      refine va_get (D := D) (ci := 7) (v := .int (nI k)) (C := RX7) (T := TX7) (N := 23) hx hb hw iX7 hown hK hP7 0 rfl rfl 7 (by decide) (hw _ kw_4_71) (fun _ h9 => h9) rfl dX7_next_60 ?_
      refine lv_aload_n hx hb dX7_next_63 rfl (lv_at hl3 2 rfl) ?_
      refine va_get (D := D) (ci := 7) (v := .int (nI n)) (C := RX7) (T := TX7) (N := 23) hx hb hw iX7 hown hK hP7 0 rfl rfl 6 (by decide) (hw _ kw_4_70) (fun _ h9 => h9) rfl dX7_next_64 ?_
      refine ln_ge (tgt := 79) k n rfl rfl (by omega) (by omega) hx hb dX7_next_67 (by decide) (fun c_67 => absurd hkn (by omega)) (fun c_67 => ?_)
      refine lv_aload_n hx hb dX7_next_70 rfl (lv_at hl3 2 rfl) ?_
      refine va_get (D := D) (ci := 7) (v := .int (nI k)) (C := RX7) (T := TX7) (N := 23) hx hb hw iX7 hown hK hP7 0 rfl rfl 7 (by decide) (hw _ kw_4_71) (fun _ h9 => h9) rfl dX7_next_71 ?_
      refine lv_iconst (v := 1) hx hb dX7_next_74 (by decide) ?_
      refine lv_iadd hx hb dX7_next_75 ?_
      refine tp (show ((nI k) + 1) = nI (k + 1) from nI_add _ _) ?_
      refine lv_goto (tgt := 83) hx hb dX7_next_76 (by decide) ?_
      refine pt (D := D) (ci := 7) (v := .int (nI (k + 1))) (ty := .int) (C := RX7) (T := TX7) (N := 23) (ws' := [mO cy mm ik (nI n) (nI k) (nI (k + 1)) vl iw rm rr om, ia cy (mm 5) 120 T]) hx hb hw iX7 tyX7 tyX7_ok nmX7 hown hK hP7 hD7 hS7 0 rfl rfl 8 (by decide) kw_4_72 (fun _ h9 => h9) rfl (by decide +kernel) rfl rfl (Nat.le_of_ble_eq_true rfl) rfl dX7_next_83 (fun H8 locs8 hP8 hD8 hS8 => ?_)
      clear hP7 hD7 hS7 locs7 H7
      refine wlp (ι := Nat) (nL := 3) (fun x9 => (k + 1 ≤ x9) ∧ (x9 ≤ n) ∧ (∀ j9, k ≤ j9 → j9 < x9 → isL (bt T n j9))) (fun x9 => [mO cy mm ik (nI n) (nI k) (nI x9) vl iw rm rr om, ia cy (mm 5) 120 T]) (fun x9 => [(2, .int 0), (1, .int 1), (0, .ref (mm 0))]) (fun x9 => []) (fun x9 => n - x9) 86 ?_ (k + 1) (⟨Nat.le_refl _, (by (try dsimp only); omega), fun j9 a9 b9 => by
          (try dsimp only at b9)
          obtain rfl : j9 = k := (by omega)
          exact h9hle⟩) rfl hP8 hD8 hS8 (lv_sub hl3 [0, 1, 2] rfl)
      clear hP8 hD8 hS8 locs8 H8 hl3 ls3
      intro x9 hI ih_86 H9 locs9 ls4 hP9 hD9 hS9 hl4
      obtain ⟨j, rfl⟩ : ∃ z9, z9 = x9 := ⟨_, rfl⟩
      obtain ⟨hj1, hj2, hal⟩ := hI
      replace hj1 : k + 1 ≤ j := hj1
      replace hj2 : j ≤ n := hj2
      replace hal : ∀ j9, k ≤ j9 → j9 < j → isL (bt T n j9) := hal
      replace hP9 : va_P D vwCl ([mO cy mm ik (nI n) (nI k) (nI j) vl iw rm rr om, ia cy (mm 5) 120 T]) H9 := hP9
      replace hD9 : va_D (va_A _ sz) ([mO cy mm ik (nI n) (nI k) (nI j) vl iw rm rr om, ia cy (mm 5) 120 T]) := hD9
      replace hl4 : lv_has ls4 3 [(2, .int 0), (1, .int 1), (0, .ref (mm 0))] := hl4
      show W p l e _ s m _ below meth c _ _ _ _ _ (F0 m 86 ls4 [])
      refine lv_iload_n hx hb dX7_next_86 rfl (lv_at hl4 1 rfl) ?_
      refine lv_if_eq (tgt := 104) hx hb dX7_next_87 (by decide) (fun c => absurd c (by decide)) (fun _ => ?_)
      refine lv_aload_n hx hb dX7_next_90 rfl (lv_at hl4 2 rfl) ?_
      refine lv_aload_n hx hb dX7_next_91 rfl (lv_at hl4 2 rfl) ?_
      refine va_get (D := D) (ci := 7) (v := .int (nI j)) (C := RX7) (T := TX7) (N := 23) hx hb hw iX7 hown hK hP9 0 rfl rfl 8 (by decide) (hw _ kw_4_72) (fun _ h9 => h9) rfl dX7_next_92 ?_
      refine rV_i (wc := [mO cy mm ik (nI n) (nI k) (nI j) vl iw rm rr om, ia cy (mm 5) 120 T]) (rest := []) hx hb hml hown hw hG hK hP9 hS9 hA hl4 kc_X7_byteAt kw_4_235 [.int (nI j)] (c_X7_byteAt l D cy G H9.size mm ik (nI k) (nI j) vl iw rm rr om n T j (by first | omega | assumption) (by first | omega | assumption)) [0, 1] rfl 0 rfl rfl rfl rfl rfl (Nat.le_of_ble_eq_true rfl) ⟨Nat.le_of_ble_eq_true rfl, Nat.le_of_ble_eq_true rfl⟩ dX7_next_95 ⟨Nat.le_of_ble_eq_true rfl, Nat.le_of_ble_eq_true rfl⟩ (fun r_95 H10 locs10 hr_95 hP10 hS10 => ?_)
      have hD10 := hD9
      clear hP9 hD9 hS9 locs9 H9
      subst hr_95
      refine rT_i (wc := []) (rest := []) hx hb hml hown hw hG hK hP10 hS10 hA hl4 kc_X7_isLetter kw_4_239 [.int (bt T n j)] (c_X7_isLetter l D cy G H10.size (bt T n j)) [] rfl rfl rfl (Nat.le_of_ble_eq_true rfl) ⟨Nat.le_of_ble_eq_true rfl, Nat.le_of_ble_eq_true rfl⟩ dX7_next_98 ⟨Nat.le_of_ble_eq_true rfl, Nat.le_of_ble_eq_true rfl⟩ (fun r_98 H11 locs11 hr_98 hP11 hS11 => ?_)
      have hD11 := hD10
      clear hP10 hD10 hS10 locs10 H10
      subst hr_98
      refine lb_ne (tgt := 122) hx hb dX7_next_101 (by decide) (fun c_101 => ?_) (fun c_101 => ?_)
      · refine lv_aload_n hx hb dX7_next_122 rfl (lv_at hl4 2 rfl) ?_
        refine lv_dup hx hb dX7_next_123 rfl ?_
        refine va_get (D := D) (ci := 7) (v := .int (nI j)) (C := RX7) (T := TX7) (N := 23) hx hb hw iX7 hown hK hP11 0 rfl rfl 8 (by decide) (hw _ kw_4_72) (fun _ h9 => h9) rfl dX7_next_124 ?_
        refine lv_iconst (v := 1) hx hb dX7_next_127 (by decide) ?_
        refine lv_iadd hx hb dX7_next_128 ?_
        refine tp (show ((nI j) + 1) = nI (j + 1) from nI_add _ _) ?_
        refine pt (D := D) (ci := 7) (v := .int (nI (j + 1))) (ty := .int) (C := RX7) (T := TX7) (N := 23) (ws' := [mO cy mm ik (nI n) (nI k) (nI (j + 1)) vl iw rm rr om, ia cy (mm 5) 120 T]) hx hb hw iX7 tyX7 tyX7_ok nmX7 hown hK hP11 hD11 hS11 0 rfl rfl 8 (by decide) kw_4_72 (fun _ h9 => h9) rfl (by decide +kernel) rfl rfl (Nat.le_of_ble_eq_true rfl) rfl dX7_next_129 (fun H12 locs12 hP12 hD12 hS12 => ?_)
        clear hP11 hD11 hS11 locs11 H11
        refine lv_goto (tgt := 86) hx hb dX7_next_132 (by decide) ?_
        exact ih_86 (j + 1) (⟨(by (try dsimp only); omega), (by (try dsimp only); have h9 := (Classical.byContradiction fun z9 => notL (by omega) c_101 : j < n); omega), fun j9 a9 b9 => by
            (try dsimp only at b9)
            by_cases e9 : j9 = j
            · subst e9; exact c_101
            · exact hal j9 a9 (by omega)⟩) (by (try dsimp only); (try dsimp only); have h9 := (Classical.byContradiction fun z9 => notL (by omega) c_101 : j < n); omega) H12 locs12 ls4 hP12 hD12 hS12 (lv_sub hl4 [0, 1, 2] rfl)
      · refine lv_iload_n hx hb dX7_next_104 rfl (lv_at hl4 0 rfl) ?_
        refine lv_if_eq (tgt := 135) hx hb dX7_next_105 (by decide) (fun _ => ?_) (fun c => absurd (by decide) c)
        have hq9 : ([mO cy mm ik (nI n) (nI k) (nI j) vl iw rm rr om, ia cy (mm 5) 120 T]) = ([mO cy mm ik (nI n) (nI k) (nI (te T n k)) vl iw rm rr om, ia cy (mm 5) 120 T]) := congrArg (fun z9 => [mO cy mm ik (nI n) (nI k) z9 vl iw rm rr om, ia cy (mm 5) 120 T]) (show (nI j) = (nI (te T n k)) from congrArg nI (te_w hkn hle (by omega) hj2 hal c_101).symm)
        replace hP11 := (congrArg (fun z9 => va_P D vwCl z9 _) hq9).mp hP11
        replace hD11 := (congrArg (fun z9 => va_D _ z9) hq9).mp hD11
        clear hq9
        subst hsk
        refine re_v () hx hb hr hlocks hP11 hD11 hS11 dX7_next_135 ?_
        exact (trivial)
    · have h9hle := hle
      have hq9 : 0 = b2i (97 ≤ (bt T n k) ∧ (bt T n k) ≤ 122) := (b2i_f hle).symm
      replace hl3 : lv_has ls3 3 [(2, .int (b2i (48 ≤ (bt T n k) ∧ (bt T n k) ≤ 57))), (1, .int 0), (0, .ref (mm 0))] := (congrArg (fun z9 => lv_has ls3 3 [(2, .int (b2i (48 ≤ (bt T n k) ∧ (bt T n k) ≤ 57))), (1, .int z9), (0, .ref (mm 0))]) hq9).mpr hl3
      clear hq9
      by_cases hdi : isD (bt T n k)
      · have h9hdi := hdi
        have hq9 : 1 = b2i (48 ≤ (bt T n k) ∧ (bt T n k) ≤ 57) := (b2i_t hdi).symm
        replace hl3 : lv_has ls3 3 [(2, .int 1), (1, .int 0), (0, .ref (mm 0))] := (congrArg (fun z9 => lv_has ls3 3 [(2, .int z9), (1, .int 0), (0, .ref (mm 0))]) hq9).mpr hl3
        clear hq9
        have hkn : k < n := Classical.byContradiction fun z9 => notD (by omega) hdi
        refine lv_aload_n hx hb dX7_next_58 rfl (lv_at hl3 2 rfl) ?_
        refine lv_aload_n hx hb dX7_next_59 rfl (lv_at hl3 2 rfl) ?_
        refine va_get (D := D) (ci := 7) (v := .int (nI k)) (C := RX7) (T := TX7) (N := 23) hx hb hw iX7 hown hK hP7 0 rfl rfl 7 (by decide) (hw _ kw_4_71) (fun _ h9 => h9) rfl dX7_next_60 ?_
        refine lv_aload_n hx hb dX7_next_63 rfl (lv_at hl3 2 rfl) ?_
        refine va_get (D := D) (ci := 7) (v := .int (nI n)) (C := RX7) (T := TX7) (N := 23) hx hb hw iX7 hown hK hP7 0 rfl rfl 6 (by decide) (hw _ kw_4_70) (fun _ h9 => h9) rfl dX7_next_64 ?_
        refine ln_ge (tgt := 79) k n rfl rfl (by omega) (by omega) hx hb dX7_next_67 (by decide) (fun c_67 => absurd hkn (by omega)) (fun c_67 => ?_)
        refine lv_aload_n hx hb dX7_next_70 rfl (lv_at hl3 2 rfl) ?_
        refine va_get (D := D) (ci := 7) (v := .int (nI k)) (C := RX7) (T := TX7) (N := 23) hx hb hw iX7 hown hK hP7 0 rfl rfl 7 (by decide) (hw _ kw_4_71) (fun _ h9 => h9) rfl dX7_next_71 ?_
        refine lv_iconst (v := 1) hx hb dX7_next_74 (by decide) ?_
        refine lv_iadd hx hb dX7_next_75 ?_
        refine tp (show ((nI k) + 1) = nI (k + 1) from nI_add _ _) ?_
        refine lv_goto (tgt := 83) hx hb dX7_next_76 (by decide) ?_
        refine pt (D := D) (ci := 7) (v := .int (nI (k + 1))) (ty := .int) (C := RX7) (T := TX7) (N := 23) (ws' := [mO cy mm ik (nI n) (nI k) (nI (k + 1)) vl iw rm rr om, ia cy (mm 5) 120 T]) hx hb hw iX7 tyX7 tyX7_ok nmX7 hown hK hP7 hD7 hS7 0 rfl rfl 8 (by decide) kw_4_72 (fun _ h9 => h9) rfl (by decide +kernel) rfl rfl (Nat.le_of_ble_eq_true rfl) rfl dX7_next_83 (fun H8 locs8 hP8 hD8 hS8 => ?_)
        clear hP7 hD7 hS7 locs7 H7
        refine wlp (ι := Nat) (nL := 3) (fun x9 => (k + 1 ≤ x9) ∧ (x9 ≤ n) ∧ (∀ j9, k ≤ j9 → j9 < x9 → isD (bt T n j9))) (fun x9 => [mO cy mm ik (nI n) (nI k) (nI x9) vl iw rm rr om, ia cy (mm 5) 120 T]) (fun x9 => [(2, .int 1), (1, .int 0), (0, .ref (mm 0))]) (fun x9 => []) (fun x9 => n - x9) 86 ?_ (k + 1) (⟨Nat.le_refl _, (by (try dsimp only); omega), fun j9 a9 b9 => by
            (try dsimp only at b9)
            obtain rfl : j9 = k := (by omega)
            exact h9hdi⟩) rfl hP8 hD8 hS8 (lv_sub hl3 [0, 1, 2] rfl)
        clear hP8 hD8 hS8 locs8 H8 hl3 ls3
        intro x9 hI ih_86 H9 locs9 ls4 hP9 hD9 hS9 hl4
        obtain ⟨j, rfl⟩ : ∃ z9, z9 = x9 := ⟨_, rfl⟩
        obtain ⟨hj1, hj2, hal⟩ := hI
        replace hj1 : k + 1 ≤ j := hj1
        replace hj2 : j ≤ n := hj2
        replace hal : ∀ j9, k ≤ j9 → j9 < j → isD (bt T n j9) := hal
        replace hP9 : va_P D vwCl ([mO cy mm ik (nI n) (nI k) (nI j) vl iw rm rr om, ia cy (mm 5) 120 T]) H9 := hP9
        replace hD9 : va_D (va_A _ sz) ([mO cy mm ik (nI n) (nI k) (nI j) vl iw rm rr om, ia cy (mm 5) 120 T]) := hD9
        replace hl4 : lv_has ls4 3 [(2, .int 1), (1, .int 0), (0, .ref (mm 0))] := hl4
        show W p l e _ s m _ below meth c _ _ _ _ _ (F0 m 86 ls4 [])
        refine lv_iload_n hx hb dX7_next_86 rfl (lv_at hl4 1 rfl) ?_
        refine lv_if_eq (tgt := 104) hx hb dX7_next_87 (by decide) (fun _ => ?_) (fun c => absurd (by decide) c)
        refine lv_iload_n hx hb dX7_next_104 rfl (lv_at hl4 0 rfl) ?_
        refine lv_if_eq (tgt := 135) hx hb dX7_next_105 (by decide) (fun c => absurd c (by decide)) (fun _ => ?_)
        refine lv_aload_n hx hb dX7_next_108 rfl (lv_at hl4 2 rfl) ?_
        refine lv_aload_n hx hb dX7_next_109 rfl (lv_at hl4 2 rfl) ?_
        refine va_get (D := D) (ci := 7) (v := .int (nI j)) (C := RX7) (T := TX7) (N := 23) hx hb hw iX7 hown hK hP9 0 rfl rfl 8 (by decide) (hw _ kw_4_72) (fun _ h9 => h9) rfl dX7_next_110 ?_
        refine rV_i (wc := [mO cy mm ik (nI n) (nI k) (nI j) vl iw rm rr om, ia cy (mm 5) 120 T]) (rest := []) hx hb hml hown hw hG hK hP9 hS9 hA hl4 kc_X7_byteAt kw_4_235 [.int (nI j)] (c_X7_byteAt l D cy G H9.size mm ik (nI k) (nI j) vl iw rm rr om n T j (by first | omega | assumption) (by first | omega | assumption)) [0, 1] rfl 0 rfl rfl rfl rfl rfl (Nat.le_of_ble_eq_true rfl) ⟨Nat.le_of_ble_eq_true rfl, Nat.le_of_ble_eq_true rfl⟩ dX7_next_113 ⟨Nat.le_of_ble_eq_true rfl, Nat.le_of_ble_eq_true rfl⟩ (fun r_113 H10 locs10 hr_113 hP10 hS10 => ?_)
        have hD10 := hD9
        clear hP9 hD9 hS9 locs9 H9
        subst hr_113
        refine rT_i (wc := []) (rest := []) hx hb hml hown hw hG hK hP10 hS10 hA hl4 kc_X7_isDigit kw_5_4 [.int (bt T n j)] (c_X7_isDigit l D cy G H10.size (bt T n j)) [] rfl rfl rfl (Nat.le_of_ble_eq_true rfl) ⟨Nat.le_of_ble_eq_true rfl, Nat.le_of_ble_eq_true rfl⟩ dX7_next_116 ⟨Nat.le_of_ble_eq_true rfl, Nat.le_of_ble_eq_true rfl⟩ (fun r_116 H11 locs11 hr_116 hP11 hS11 => ?_)
        have hD11 := hD10
        clear hP10 hD10 hS10 locs10 H10
        subst hr_116
        refine lb_eq (tgt := 135) hx hb dX7_next_119 (by decide) (fun c_119 => ?_) (fun c_119 => ?_)
        · have hq9 : ([mO cy mm ik (nI n) (nI k) (nI j) vl iw rm rr om, ia cy (mm 5) 120 T]) = ([mO cy mm ik (nI n) (nI k) (nI (te T n k)) vl iw rm rr om, ia cy (mm 5) 120 T]) := congrArg (fun z9 => [mO cy mm ik (nI n) (nI k) z9 vl iw rm rr om, ia cy (mm 5) 120 T]) (show (nI j) = (nI (te T n k)) from congrArg nI (te_d hkn hdi (by omega) hj2 hal c_119).symm)
          replace hP11 := (congrArg (fun z9 => va_P D vwCl z9 _) hq9).mp hP11
          replace hD11 := (congrArg (fun z9 => va_D _ z9) hq9).mp hD11
          clear hq9
          subst hsk
          refine re_v () hx hb hr hlocks hP11 hD11 hS11 dX7_next_135 ?_
          exact (trivial)
        · refine lv_aload_n hx hb dX7_next_122 rfl (lv_at hl4 2 rfl) ?_
          refine lv_dup hx hb dX7_next_123 rfl ?_
          refine va_get (D := D) (ci := 7) (v := .int (nI j)) (C := RX7) (T := TX7) (N := 23) hx hb hw iX7 hown hK hP11 0 rfl rfl 8 (by decide) (hw _ kw_4_72) (fun _ h9 => h9) rfl dX7_next_124 ?_
          refine lv_iconst (v := 1) hx hb dX7_next_127 (by decide) ?_
          refine lv_iadd hx hb dX7_next_128 ?_
          refine tp (show ((nI j) + 1) = nI (j + 1) from nI_add _ _) ?_
          refine pt (D := D) (ci := 7) (v := .int (nI (j + 1))) (ty := .int) (C := RX7) (T := TX7) (N := 23) (ws' := [mO cy mm ik (nI n) (nI k) (nI (j + 1)) vl iw rm rr om, ia cy (mm 5) 120 T]) hx hb hw iX7 tyX7 tyX7_ok nmX7 hown hK hP11 hD11 hS11 0 rfl rfl 8 (by decide) kw_4_72 (fun _ h9 => h9) rfl (by decide +kernel) rfl rfl (Nat.le_of_ble_eq_true rfl) rfl dX7_next_129 (fun H12 locs12 hP12 hD12 hS12 => ?_)
          clear hP11 hD11 hS11 locs11 H11
          refine lv_goto (tgt := 86) hx hb dX7_next_132 (by decide) ?_
          exact ih_86 (j + 1) (⟨(by (try dsimp only); omega), (by (try dsimp only); have h9 := (Classical.byContradiction fun z9 => notD (by omega) c_119 : j < n); omega), fun j9 a9 b9 => by
              (try dsimp only at b9)
              by_cases e9 : j9 = j
              · subst e9; exact c_119
              · exact hal j9 a9 (by omega)⟩) (by (try dsimp only); (try dsimp only); have h9 := (Classical.byContradiction fun z9 => notD (by omega) c_119 : j < n); omega) H12 locs12 ls4 hP12 hD12 hS12 (lv_sub hl4 [0, 1, 2] rfl)
      · have h9hdi := hdi
        have hq9 : 0 = b2i (48 ≤ (bt T n k) ∧ (bt T n k) ≤ 57) := (b2i_f hdi).symm
        replace hl3 : lv_has ls3 3 [(2, .int 0), (1, .int 0), (0, .ref (mm 0))] := (congrArg (fun z9 => lv_has ls3 3 [(2, .int z9), (1, .int 0), (0, .ref (mm 0))]) hq9).mpr hl3
        clear hq9
        refine lv_aload_n hx hb dX7_next_58 rfl (lv_at hl3 2 rfl) ?_
        refine lv_aload_n hx hb dX7_next_59 rfl (lv_at hl3 2 rfl) ?_
        refine va_get (D := D) (ci := 7) (v := .int (nI k)) (C := RX7) (T := TX7) (N := 23) hx hb hw iX7 hown hK hP7 0 rfl rfl 7 (by decide) (hw _ kw_4_71) (fun _ h9 => h9) rfl dX7_next_60 ?_
        refine lv_aload_n hx hb dX7_next_63 rfl (lv_at hl3 2 rfl) ?_
        refine va_get (D := D) (ci := 7) (v := .int (nI n)) (C := RX7) (T := TX7) (N := 23) hx hb hw iX7 hown hK hP7 0 rfl rfl 6 (by decide) (hw _ kw_4_70) (fun _ h9 => h9) rfl dX7_next_64 ?_
        refine ln_ge (tgt := 79) k n rfl rfl (by omega) (by omega) hx hb dX7_next_67 (by decide) (fun c_67 => ?_) (fun c_67 => ?_)
        · refine lv_aload_n hx hb dX7_next_79 rfl (lv_at hl3 2 rfl) ?_
          refine va_get (D := D) (ci := 7) (v := .int (nI k)) (C := RX7) (T := TX7) (N := 23) hx hb hw iX7 hown hK hP7 0 rfl rfl 7 (by decide) (hw _ kw_4_71) (fun _ h9 => h9) rfl dX7_next_80 ?_
          refine pt (D := D) (ci := 7) (v := .int (nI k)) (ty := .int) (C := RX7) (T := TX7) (N := 23) (ws' := [mO cy mm ik (nI n) (nI k) (nI k) vl iw rm rr om, ia cy (mm 5) 120 T]) hx hb hw iX7 tyX7 tyX7_ok nmX7 hown hK hP7 hD7 hS7 0 rfl rfl 8 (by decide) kw_4_72 (fun _ h9 => h9) rfl (by decide +kernel) rfl rfl (Nat.le_of_ble_eq_true rfl) rfl dX7_next_83 (fun H8 locs8 hP8 hD8 hS8 => ?_)
          clear hP7 hD7 hS7 locs7 H7
          refine lv_iload_n hx hb dX7_next_86 rfl (lv_at hl3 1 rfl) ?_
          refine lv_if_eq (tgt := 104) hx hb dX7_next_87 (by decide) (fun _ => ?_) (fun c => absurd (by decide) c)
          refine lv_iload_n hx hb dX7_next_104 rfl (lv_at hl3 0 rfl) ?_
          refine lv_if_eq (tgt := 135) hx hb dX7_next_105 (by decide) (fun _ => ?_) (fun c => absurd (by decide) c)
          have hq9 : ([mO cy mm ik (nI n) (nI k) (nI k) vl iw rm rr om, ia cy (mm 5) 120 T]) = ([mO cy mm ik (nI n) (nI k) (nI (te T n k)) vl iw rm rr om, ia cy (mm 5) 120 T]) := congrArg (fun z9 => [mO cy mm ik (nI n) (nI k) z9 vl iw rm rr om, ia cy (mm 5) 120 T]) (show (nI k) = (nI (te T n k)) from congrArg nI (te_e c_67).symm)
          replace hP8 := (congrArg (fun z9 => va_P D vwCl z9 _) hq9).mp hP8
          replace hD8 := (congrArg (fun z9 => va_D _ z9) hq9).mp hD8
          clear hq9
          subst hsk
          refine re_v () hx hb hr hlocks hP8 hD8 hS8 dX7_next_135 ?_
          exact (trivial)
        · refine lv_aload_n hx hb dX7_next_70 rfl (lv_at hl3 2 rfl) ?_
          refine va_get (D := D) (ci := 7) (v := .int (nI k)) (C := RX7) (T := TX7) (N := 23) hx hb hw iX7 hown hK hP7 0 rfl rfl 7 (by decide) (hw _ kw_4_71) (fun _ h9 => h9) rfl dX7_next_71 ?_
          refine lv_iconst (v := 1) hx hb dX7_next_74 (by decide) ?_
          refine lv_iadd hx hb dX7_next_75 ?_
          refine tp (show ((nI k) + 1) = nI (k + 1) from nI_add _ _) ?_
          refine lv_goto (tgt := 83) hx hb dX7_next_76 (by decide) ?_
          refine pt (D := D) (ci := 7) (v := .int (nI (k + 1))) (ty := .int) (C := RX7) (T := TX7) (N := 23) (ws' := [mO cy mm ik (nI n) (nI k) (nI (k + 1)) vl iw rm rr om, ia cy (mm 5) 120 T]) hx hb hw iX7 tyX7 tyX7_ok nmX7 hown hK hP7 hD7 hS7 0 rfl rfl 8 (by decide) kw_4_72 (fun _ h9 => h9) rfl (by decide +kernel) rfl rfl (Nat.le_of_ble_eq_true rfl) rfl dX7_next_83 (fun H8 locs8 hP8 hD8 hS8 => ?_)
          clear hP7 hD7 hS7 locs7 H7
          refine lv_iload_n hx hb dX7_next_86 rfl (lv_at hl3 1 rfl) ?_
          refine lv_if_eq (tgt := 104) hx hb dX7_next_87 (by decide) (fun _ => ?_) (fun c => absurd (by decide) c)
          refine lv_iload_n hx hb dX7_next_104 rfl (lv_at hl3 0 rfl) ?_
          refine lv_if_eq (tgt := 135) hx hb dX7_next_105 (by decide) (fun _ => ?_) (fun c => absurd (by decide) c)
          have hq9 : ([mO cy mm ik (nI n) (nI k) (nI (k + 1)) vl iw rm rr om, ia cy (mm 5) 120 T]) = ([mO cy mm ik (nI n) (nI k) (nI (te T n k)) vl iw rm rr om, ia cy (mm 5) 120 T]) := congrArg (fun z9 => [mO cy mm ik (nI n) (nI k) z9 vl iw rm rr om, ia cy (mm 5) 120 T]) (show (nI (k + 1)) = (nI (te T n k)) from congrArg nI (te_o c_67 hle hdi).symm)
          replace hP8 := (congrArg (fun z9 => va_P D vwCl z9 _) hq9).mp hP8
          replace hD8 := (congrArg (fun z9 => va_D _ z9) hq9).mp hD8
          clear hq9
          subst hsk
          refine re_v () hx hb hr hlocks hP8 hD8 hS8 dX7_next_135 ?_
          exact (trivial)
  · have hkn : k < n := Classical.byContradiction fun z9 => not32 (by omega) c_18
    refine lv_aload_n hx hb dX7_next_21 rfl (lv_at hl1 0 rfl) ?_
    refine lv_dup hx hb dX7_next_22 rfl ?_
    refine va_get (D := D) (ci := 7) (v := .int (nI k)) (C := RX7) (T := TX7) (N := 23) hx hb hw iX7 hown hK hP3 0 rfl rfl 7 (by decide) (hw _ kw_4_71) (fun _ h9 => h9) rfl dX7_next_23 ?_
    refine lv_iconst (v := 1) hx hb dX7_next_26 (by decide) ?_
    refine lv_iadd hx hb dX7_next_27 ?_
    refine tp (show ((nI k) + 1) = nI (k + 1) from nI_add _ _) ?_
    refine pt (D := D) (ci := 7) (v := .int (nI (k + 1))) (ty := .int) (C := RX7) (T := TX7) (N := 23) (ws' := [mO cy mm ik (nI n) (nI (k + 1)) (nI e1) vl iw rm rr om, ia cy (mm 5) 120 T]) hx hb hw iX7 tyX7 tyX7_ok nmX7 hown hK hP3 hD3 hS3 0 rfl rfl 7 (by decide) kw_4_71 (fun _ h9 => h9) rfl (by decide +kernel) rfl rfl (Nat.le_of_ble_eq_true rfl) rfl dX7_next_28 (fun H4 locs4 hP4 hD4 hS4 => ?_)
    clear hP3 hD3 hS3 locs3 H3
    refine lv_goto (tgt := 8) hx hb dX7_next_31 (by decide) ?_
    exact ih_8 (k + 1) (⟨(by (try dsimp only); omega), (by (try dsimp only); omega), fun j9 a9 b9 => by
        by_cases e9 : j9 = k
        · subst e9; exact c_18
        · exact hall j9 a9 (by omega)⟩) (by (try dsimp only); omega) H4 locs4 ls1 hP4 hD4 hS4 (lv_sub hl1 [0] rfl)

theorem kc_X7_needs : kV yX7_needs cX7_needs 2 none 1 := ⟨kw_5_31, kw_s_43, kw_1_8, kw_5_32, by decide, by decide, by decide +kernel⟩
set_option maxHeartbeats 4000000 in
set_option maxRecDepth 100000 in
theorem c_X7_needs (l : Launch) (D : va_G) (cy : Nat → ClassId) (G : Nat → Nat) (sz : Nat) (mm : Nat → Nat) (ik : Int32) (vl : Int32) (rm : Int32) (rr : Int32) (om : Int32) (n : Nat) (T : Nat → Int32) (rq : Bool × Nat) (pq : Bool) (hn : n ≤ 120) (hs : rq.2 ≤ n) : Met l yX7_needs (wm yX7_needs cX7_needs 2 none) { frames := 3, cells := 0, slots := 0, locals := 67 } (va_Pc [.ref (mm 0), .int (b2i (pq = true))] (pr D (TY cy) G ([mO cy mm ik (nI n) (nI (rq.2)) (nI (te T n (rq.2))) vl (b2i (rq.1 = true)) rm rr om, ia cy (mm 5) 120 T]) sz)) (va_Qv (fun (u : Unit) => True) (fun (u : Unit) t => po D (va_A ([mO cy mm ik (nI n) (nI (rq.2)) (nI (te T n (rq.2))) vl (b2i (rq.1 = true)) rm rr om, ia cy (mm 5) 120 T]) sz) ([mO cy mm ik (nI n) (nI ((ndR T n pq rq).2)) (nI (te T n ((ndR T n pq rq).2))) vl (b2i ((ndR T n pq rq).1 = true)) rm rr om, ia cy (mm 5) 120 T]) t) (va_A ([mO cy mm ik (nI n) (nI (rq.2)) (nI (te T n (rq.2))) vl (b2i (rq.1 = true)) rm rr om, ia cy (mm 5) 120 T]) sz)) 0 0 (va_A ([mO cy mm ik (nI n) (nI (rq.2)) (nI (te T n (rq.2))) vl (b2i (rq.1 = true)) rm rr om, ia cy (mm 5) 120 T]) sz) := by
  refine mk_rw (by decide) RX7 rfl (Nat.le_of_ble_eq_true rfl) [(0, .ref (mm 0)), (1, .int (b2i (pq = true)))] rfl ?_
  intro p e s m below meth c hx hb hml hown hr hlocks hin hw hsz hA hG hK H0 locs0 hP0 hD0 hS0 ls0 hl0
  clear hin
  have hte := te_b (T := T) hs
  refine lv_aload_n hx hb dX7_needs_0 rfl (lv_at hl0 0 rfl) ?_
  refine lv_aload_n hx hb dX7_needs_1 rfl (lv_at hl0 0 rfl) ?_
  refine va_get (D := D) (ci := 7) (v := .int (b2i (rq.1 = true))) (C := RX7) (T := TX7) (N := 23) hx hb hw iX7 hown hK hP0 0 rfl rfl 10 (by decide) (hw _ kw_4_74) (fun _ h9 => h9) rfl dX7_needs_2 ?_
  refine lb_ne (tgt := 12) hx hb dX7_needs_5 (by decide) (fun c_5 => ?_) (fun c_5 => ?_)
  · refine lv_iconst (v := 1) hx hb dX7_needs_12 (by decide) ?_
    refine lv_goto (tgt := 17) hx hb dX7_needs_13 (by decide) ?_
    refine pt (D := D) (ci := 7) (v := .int 1) (ty := .boolean) (C := RX7) (T := TX7) (N := 23) (ws' := [mO cy mm ik (nI n) (nI (rq.2)) (nI (te T n (rq.2))) vl 1 rm rr om, ia cy (mm 5) 120 T]) hx hb hw iX7 tyX7 tyX7_ok nmX7 hown hK hP0 hD0 hS0 0 rfl rfl 10 (by decide) kw_4_74 (fun _ h9 => h9) rfl (by decide +kernel) rfl rfl (Nat.le_of_ble_eq_true rfl) rfl dX7_needs_17 (fun H1 locs1 hP1 hD1 hS1 => ?_)
    clear hP0 hD0 hS0 locs0 H0
    refine lv_aload_n hx hb dX7_needs_20 rfl (lv_at hl0 0 rfl) ?_
    refine va_get (D := D) (ci := 7) (v := .int 1) (C := RX7) (T := TX7) (N := 23) hx hb hw iX7 hown hK hP1 0 rfl rfl 10 (by decide) (hw _ kw_4_74) (fun _ h9 => h9) rfl dX7_needs_21 ?_
    refine lv_if_ne (tgt := 31) hx hb dX7_needs_24 (by decide) (fun _ => ?_) (fun c => absurd c (by decide))
    have hnd : rq = ndR T n pq rq := (ndR_t T n pq c_5).symm
    have hq9 : ([mO cy mm ik (nI n) (nI (rq.2)) (nI (te T n (rq.2))) vl 1 rm rr om, ia cy (mm 5) 120 T]) = ([mO cy mm ik (nI n) (nI ((ndR T n pq rq).2)) (nI (te T n (rq.2))) vl 1 rm rr om, ia cy (mm 5) 120 T]) := congrArg (fun z9 => [mO cy mm ik (nI n) z9 (nI (te T n (rq.2))) vl 1 rm rr om, ia cy (mm 5) 120 T]) (show (nI (rq.2)) = (nI ((ndR T n pq rq).2)) from congrArg (fun z9 : Bool × Nat => nI z9.2) hnd)
    replace hP1 := (congrArg (fun z9 => va_P D vwCl z9 _) hq9).mp hP1
    replace hD1 := (congrArg (fun z9 => va_D _ z9) hq9).mp hD1
    clear hq9
    have hq9 : ([mO cy mm ik (nI n) (nI ((ndR T n pq rq).2)) (nI (te T n (rq.2))) vl 1 rm rr om, ia cy (mm 5) 120 T]) = ([mO cy mm ik (nI n) (nI ((ndR T n pq rq).2)) (nI (te T n ((ndR T n pq rq).2))) vl 1 rm rr om, ia cy (mm 5) 120 T]) := congrArg (fun z9 => [mO cy mm ik (nI n) (nI ((ndR T n pq rq).2)) z9 vl 1 rm rr om, ia cy (mm 5) 120 T]) (show (nI (te T n (rq.2))) = (nI (te T n ((ndR T n pq rq).2))) from congrArg (fun z9 : Bool × Nat => nI (te T n z9.2)) hnd)
    replace hP1 := (congrArg (fun z9 => va_P D vwCl z9 _) hq9).mp hP1
    replace hD1 := (congrArg (fun z9 => va_D _ z9) hq9).mp hD1
    clear hq9
    have hq9 : ([mO cy mm ik (nI n) (nI ((ndR T n pq rq).2)) (nI (te T n ((ndR T n pq rq).2))) vl 1 rm rr om, ia cy (mm 5) 120 T]) = ([mO cy mm ik (nI n) (nI ((ndR T n pq rq).2)) (nI (te T n ((ndR T n pq rq).2))) vl (b2i ((ndR T n pq rq).1 = true)) rm rr om, ia cy (mm 5) 120 T]) := congrArg (fun z9 => [mO cy mm ik (nI n) (nI ((ndR T n pq rq).2)) (nI (te T n ((ndR T n pq rq).2))) vl z9 rm rr om, ia cy (mm 5) 120 T]) (show 1 = (b2i ((ndR T n pq rq).1 = true)) from by rw [← hnd]; exact (b2i_t c_5).symm)
    replace hP1 := (congrArg (fun z9 => va_P D vwCl z9 _) hq9).mp hP1
    replace hD1 := (congrArg (fun z9 => va_D _ z9) hq9).mp hD1
    clear hq9
    refine re_v () hx hb hr hlocks hP1 hD1 hS1 dX7_needs_31 ?_
    exact (trivial)
  · refine lv_iload_n hx hb dX7_needs_8 rfl (lv_at hl0 1 rfl) ?_
    refine lb_ne (tgt := 16) hx hb dX7_needs_9 (by decide) (fun c_9 => ?_) (fun c_9 => ?_)
    · refine lv_iconst (v := 0) hx hb dX7_needs_16 (by decide) ?_
      refine pt (D := D) (ci := 7) (v := .int 0) (ty := .boolean) (C := RX7) (T := TX7) (N := 23) (ws' := [mO cy mm ik (nI n) (nI (rq.2)) (nI (te T n (rq.2))) vl 0 rm rr om, ia cy (mm 5) 120 T]) hx hb hw iX7 tyX7 tyX7_ok nmX7 hown hK hP0 hD0 hS0 0 rfl rfl 10 (by decide) kw_4_74 (fun _ h9 => h9) rfl (by decide +kernel) rfl rfl (Nat.le_of_ble_eq_true rfl) rfl dX7_needs_17 (fun H1 locs1 hP1 hD1 hS1 => ?_)
      clear hP0 hD0 hS0 locs0 H0
      refine lv_aload_n hx hb dX7_needs_20 rfl (lv_at hl0 0 rfl) ?_
      refine va_get (D := D) (ci := 7) (v := .int 0) (C := RX7) (T := TX7) (N := 23) hx hb hw iX7 hown hK hP1 0 rfl rfl 10 (by decide) (hw _ kw_4_74) (fun _ h9 => h9) rfl dX7_needs_21 ?_
      refine lv_if_ne (tgt := 31) hx hb dX7_needs_24 (by decide) (fun c => absurd (by decide) c) (fun _ => ?_)
      refine lv_aload_n hx hb dX7_needs_27 rfl (lv_at hl0 0 rfl) ?_
      refine cV_v (wc := [mO cy mm ik (nI n) (nI (rq.2)) (nI (te T n (rq.2))) vl 0 rm rr om, ia cy (mm 5) 120 T]) (wr := []) (rest := []) hx hb hml hown hw hG hK hP1 hD1 hS1 hA hl0 kc_X7_next kw_4_231 [] (c_X7_next l D cy G H1.size mm ik (nI (rq.2)) vl 0 rm rr om n T (te T n (rq.2)) (by first | omega | assumption) hte.2) [0, 1] [] rfl rfl rfl rfl rfl 0 rfl rfl rfl rfl rfl (Nat.le_of_ble_eq_true rfl) ⟨Nat.le_of_ble_eq_true rfl, Nat.le_of_ble_eq_true rfl⟩ dX7_needs_28 ⟨Nat.le_of_ble_eq_true rfl, Nat.le_of_ble_eq_true rfl⟩ (fun u9 H2 locs2 hu9 hP2 hD2 hS2 => ?_)
      clear hP1 hD1 hS1 locs1 H1
      replace hP2 : va_P D vwCl ([mO cy mm ik (nI n) (nI (skp T n (te T n (rq.2)))) (nI (te T n (skp T n (te T n (rq.2))))) vl 0 rm rr om, ia cy (mm 5) 120 T]) H2 := hP2
      replace hD2 : va_D (va_A _ sz) ([mO cy mm ik (nI n) (nI (skp T n (te T n (rq.2)))) (nI (te T n (skp T n (te T n (rq.2))))) vl 0 rm rr om, ia cy (mm 5) 120 T]) := hD2
      have hnd : ndR T n pq rq = (false, nxt T n rq.2) := ndR_y c_5 c_9
      have hq9 : ([mO cy mm ik (nI n) (nI (skp T n (te T n (rq.2)))) (nI (te T n (skp T n (te T n (rq.2))))) vl 0 rm rr om, ia cy (mm 5) 120 T]) = ([mO cy mm ik (nI n) (nI ((ndR T n pq rq).2)) (nI (te T n (skp T n (te T n (rq.2))))) vl 0 rm rr om, ia cy (mm 5) 120 T]) := congrArg (fun z9 => [mO cy mm ik (nI n) z9 (nI (te T n (skp T n (te T n (rq.2))))) vl 0 rm rr om, ia cy (mm 5) 120 T]) (show (nI (skp T n (te T n (rq.2)))) = (nI ((ndR T n pq rq).2)) from by rw [hnd] <;> rfl)
      replace hP2 := (congrArg (fun z9 => va_P D vwCl z9 _) hq9).mp hP2
      replace hD2 := (congrArg (fun z9 => va_D _ z9) hq9).mp hD2
      clear hq9
      have hq9 : ([mO cy mm ik (nI n) (nI ((ndR T n pq rq).2)) (nI (te T n (skp T n (te T n (rq.2))))) vl 0 rm rr om, ia cy (mm 5) 120 T]) = ([mO cy mm ik (nI n) (nI ((ndR T n pq rq).2)) (nI (te T n ((ndR T n pq rq).2))) vl 0 rm rr om, ia cy (mm 5) 120 T]) := congrArg (fun z9 => [mO cy mm ik (nI n) (nI ((ndR T n pq rq).2)) z9 vl 0 rm rr om, ia cy (mm 5) 120 T]) (show (nI (te T n (skp T n (te T n (rq.2))))) = (nI (te T n ((ndR T n pq rq).2))) from by rw [hnd] <;> rfl)
      replace hP2 := (congrArg (fun z9 => va_P D vwCl z9 _) hq9).mp hP2
      replace hD2 := (congrArg (fun z9 => va_D _ z9) hq9).mp hD2
      clear hq9
      have hq9 : ([mO cy mm ik (nI n) (nI ((ndR T n pq rq).2)) (nI (te T n ((ndR T n pq rq).2))) vl 0 rm rr om, ia cy (mm 5) 120 T]) = ([mO cy mm ik (nI n) (nI ((ndR T n pq rq).2)) (nI (te T n ((ndR T n pq rq).2))) vl (b2i ((ndR T n pq rq).1 = true)) rm rr om, ia cy (mm 5) 120 T]) := congrArg (fun z9 => [mO cy mm ik (nI n) (nI ((ndR T n pq rq).2)) (nI (te T n ((ndR T n pq rq).2))) vl z9 rm rr om, ia cy (mm 5) 120 T]) (show 0 = (b2i ((ndR T n pq rq).1 = true)) from by rw [hnd] <;> rfl)
      replace hP2 := (congrArg (fun z9 => va_P D vwCl z9 _) hq9).mp hP2
      replace hD2 := (congrArg (fun z9 => va_D _ z9) hq9).mp hD2
      clear hq9
      refine re_v () hx hb hr hlocks hP2 hD2 hS2 dX7_needs_31 ?_
      exact (trivial)
    · refine lv_iconst (v := 1) hx hb dX7_needs_12 (by decide) ?_
      refine lv_goto (tgt := 17) hx hb dX7_needs_13 (by decide) ?_
      refine pt (D := D) (ci := 7) (v := .int 1) (ty := .boolean) (C := RX7) (T := TX7) (N := 23) (ws' := [mO cy mm ik (nI n) (nI (rq.2)) (nI (te T n (rq.2))) vl 1 rm rr om, ia cy (mm 5) 120 T]) hx hb hw iX7 tyX7 tyX7_ok nmX7 hown hK hP0 hD0 hS0 0 rfl rfl 10 (by decide) kw_4_74 (fun _ h9 => h9) rfl (by decide +kernel) rfl rfl (Nat.le_of_ble_eq_true rfl) rfl dX7_needs_17 (fun H1 locs1 hP1 hD1 hS1 => ?_)
      clear hP0 hD0 hS0 locs0 H0
      refine lv_aload_n hx hb dX7_needs_20 rfl (lv_at hl0 0 rfl) ?_
      refine va_get (D := D) (ci := 7) (v := .int 1) (C := RX7) (T := TX7) (N := 23) hx hb hw iX7 hown hK hP1 0 rfl rfl 10 (by decide) (hw _ kw_4_74) (fun _ h9 => h9) rfl dX7_needs_21 ?_
      refine lv_if_ne (tgt := 31) hx hb dX7_needs_24 (by decide) (fun _ => ?_) (fun c => absurd c (by decide))
      have hnd : ndR T n pq rq = (true, rq.2) := ndR_n c_9
      have hq9 : ([mO cy mm ik (nI n) (nI (rq.2)) (nI (te T n (rq.2))) vl 1 rm rr om, ia cy (mm 5) 120 T]) = ([mO cy mm ik (nI n) (nI ((ndR T n pq rq).2)) (nI (te T n (rq.2))) vl 1 rm rr om, ia cy (mm 5) 120 T]) := congrArg (fun z9 => [mO cy mm ik (nI n) z9 (nI (te T n (rq.2))) vl 1 rm rr om, ia cy (mm 5) 120 T]) (show (nI (rq.2)) = (nI ((ndR T n pq rq).2)) from by rw [hnd] <;> rfl)
      replace hP1 := (congrArg (fun z9 => va_P D vwCl z9 _) hq9).mp hP1
      replace hD1 := (congrArg (fun z9 => va_D _ z9) hq9).mp hD1
      clear hq9
      have hq9 : ([mO cy mm ik (nI n) (nI ((ndR T n pq rq).2)) (nI (te T n (rq.2))) vl 1 rm rr om, ia cy (mm 5) 120 T]) = ([mO cy mm ik (nI n) (nI ((ndR T n pq rq).2)) (nI (te T n ((ndR T n pq rq).2))) vl 1 rm rr om, ia cy (mm 5) 120 T]) := congrArg (fun z9 => [mO cy mm ik (nI n) (nI ((ndR T n pq rq).2)) z9 vl 1 rm rr om, ia cy (mm 5) 120 T]) (show (nI (te T n (rq.2))) = (nI (te T n ((ndR T n pq rq).2))) from by rw [hnd] <;> rfl)
      replace hP1 := (congrArg (fun z9 => va_P D vwCl z9 _) hq9).mp hP1
      replace hD1 := (congrArg (fun z9 => va_D _ z9) hq9).mp hD1
      clear hq9
      have hq9 : ([mO cy mm ik (nI n) (nI ((ndR T n pq rq).2)) (nI (te T n ((ndR T n pq rq).2))) vl 1 rm rr om, ia cy (mm 5) 120 T]) = ([mO cy mm ik (nI n) (nI ((ndR T n pq rq).2)) (nI (te T n ((ndR T n pq rq).2))) vl (b2i ((ndR T n pq rq).1 = true)) rm rr om, ia cy (mm 5) 120 T]) := congrArg (fun z9 => [mO cy mm ik (nI n) (nI ((ndR T n pq rq).2)) (nI (te T n ((ndR T n pq rq).2))) vl z9 rm rr om, ia cy (mm 5) 120 T]) (show 1 = (b2i ((ndR T n pq rq).1 = true)) from by rw [hnd] <;> rfl)
      replace hP1 := (congrArg (fun z9 => va_P D vwCl z9 _) hq9).mp hP1
      replace hD1 := (congrArg (fun z9 => va_D _ z9) hq9).mp hD1
      clear hq9
      refine re_v () hx hb hr hlocks hP1 hD1 hS1 dX7_needs_31 ?_
      exact (trivial)

theorem kc_X7_isAt : kV yX7_isAt cX7_isAt 3 (some .boolean) 2 := ⟨kw_5_23, kw_s_41, kw_1_8, kw_5_24, by decide, by decide, by decide +kernel⟩
set_option maxHeartbeats 4000000 in
set_option maxRecDepth 100000 in
theorem c_X7_isAt (l : Launch) (D : va_G) (cy : Nat → ClassId) (G : Nat → Nat) (sz : Nat) (mm : Nat → Nat) (ik : Int32) (tz : Int32) (vl : Int32) (iw : Int32) (rm : Int32) (rr : Int32) (om : Int32) (n : Nat) (T : Nat → Int32) (ps : Nat) (k : Nat) (y0 : Int32) (hn : n ≤ 120) (hs : ps ≤ n) (hk : k ≤ 6) : Met l yX7_isAt (wm yX7_isAt cX7_isAt 3 (some .boolean)) { frames := 1, cells := 0, slots := 0, locals := 21 } (va_Pc [.ref (mm 0), .int (nI k), .int y0] (pd D (TY cy) G ([mO cy mm ik (nI n) (nI ps) tz vl iw rm rr om, ia cy (mm 5) 120 T]) sz)) (va_Qi (fun r (_ : Unit) => r = b2i (y0 = 0 ∨ bt T n (ps + k) = y0)) (fun _ _ => True) (va_A [] sz)) 0 0 (va_A [] sz) := by
  refine mk_rd (by decide) RX7 rfl (Nat.le_of_ble_eq_true rfl) [(0, .ref (mm 0)), (1, .int (nI k)), (2, .int y0)] rfl ?_
  intro p e s m below meth c hx hb hml hown hr hlocks hw hsz hA hG hK H0 locs0 hP0 hS0 ls0 hl0
  refine lv_iload_n hx hb dX7_isAt_0 rfl (lv_at hl0 2 rfl) ?_
  refine lv_if_eq (tgt := 18) hx hb dX7_isAt_1 (by decide) (fun c_1 => ?_) (fun c_1 => ?_)
  · refine lv_iconst (v := 1) hx hb dX7_isAt_18 (by decide) ?_
    refine lv_goto (tgt := 23) hx hb dX7_isAt_19 (by decide) ?_
    exact rd_z hx hb hr hlocks hS0 dX7_isAt_23 rfl (by clear hx hb hml hown hr hlocks hw hsz hA hG hK hP0 hS0 hl0; grind [b2i])
  · refine lv_aload_n hx hb dX7_isAt_4 rfl (lv_at hl0 0 rfl) ?_
    refine lv_aload_n hx hb dX7_isAt_5 rfl (lv_at hl0 0 rfl) ?_
    refine va_get (D := D) (ci := 7) (v := .int (nI ps)) (C := RX7) (T := TX7) (N := 23) hx hb hw iX7 hown hK hP0 0 rfl rfl 7 (by decide) (hw _ kw_4_71) (fun _ h9 => h9) rfl dX7_isAt_6 ?_
    refine lv_iload_n hx hb dX7_isAt_9 rfl (lv_at hl0 1 rfl) ?_
    refine lv_iadd hx hb dX7_isAt_10 ?_
    refine tp (show ((nI ps) + (nI k)) = nI (ps + k) from nI_add _ _) ?_
    refine rV_i (wc := [mO cy mm ik (nI n) (nI ps) tz vl iw rm rr om, ia cy (mm 5) 120 T]) (rest := []) hx hb hml hown hw hG hK hP0 hS0 hA hl0 kc_X7_byteAt kw_4_235 [.int (nI (ps + k))] (c_X7_byteAt l D cy G H0.size mm ik (nI ps) tz vl iw rm rr om n T (ps + k) (by first | omega | assumption) (by first | omega | assumption)) [0, 1] rfl 0 rfl rfl rfl rfl rfl (Nat.le_of_ble_eq_true rfl) ⟨Nat.le_of_ble_eq_true rfl, Nat.le_of_ble_eq_true rfl⟩ dX7_isAt_11 ⟨Nat.le_of_ble_eq_true rfl, Nat.le_of_ble_eq_true rfl⟩ (fun r_11 H1 locs1 hr_11 hP1 hS1 => ?_)
    clear hP0 hS0 locs0 H0
    subst hr_11
    refine lv_iload_n hx hb dX7_isAt_14 rfl (lv_at hl0 2 rfl) ?_
    refine lv_icmp_ne (tgt := 22) hx hb dX7_isAt_15 (by decide) (fun c_15 => ?_) (fun c_15 => ?_)
    · refine lv_iconst (v := 0) hx hb dX7_isAt_22 (by decide) ?_
      exact rd_z hx hb hr hlocks hS1 dX7_isAt_23 rfl (by clear hx hb hml hown hr hlocks hw hsz hA hG hK hP1 hS1 hl0; grind [b2i])
    · refine lv_iconst (v := 1) hx hb dX7_isAt_18 (by decide) ?_
      refine lv_goto (tgt := 23) hx hb dX7_isAt_19 (by decide) ?_
      exact rd_z hx hb hr hlocks hS1 dX7_isAt_23 rfl (by clear hx hb hml hown hr hlocks hw hsz hA hG hK hP1 hS1 hl0; grind [b2i])

theorem kc_X7_isWord : kV yX7_isWord cX7_isWord 9 (some .boolean) 7 := ⟨kw_5_19, kw_s_40, kw_1_8, kw_5_20, by decide, by decide, by decide +kernel⟩
set_option maxHeartbeats 4000000 in
set_option maxRecDepth 100000 in
theorem c_X7_isWord (l : Launch) (D : va_G) (cy : Nat → ClassId) (G : Nat → Nat) (sz : Nat) (mm : Nat → Nat) (ik : Int32) (vl : Int32) (rm : Int32) (rr : Int32) (om : Int32) (n : Nat) (T : Nat → Int32) (rq : Bool × Nat) (i : Nat) (y0 : Int32) (y1 : Int32) (y2 : Int32) (y3 : Int32) (y4 : Int32) (y5 : Int32) (y6 : Int32) (hn : n ≤ 120) (hs : rq.2 ≤ n) (hi : i < 14) (hy0 : y0 = wl i 0) (hy1 : y1 = wl i 1) (hy2 : y2 = wl i 2) (hy3 : y3 = wl i 3) (hy4 : y4 = wl i 4) (hy5 : y5 = wl i 5) (hy6 : y6 = wl i 6) : Met l yX7_isWord (wm yX7_isWord cX7_isWord 9 (some .boolean)) { frames := 2, cells := 0, slots := 0, locals := 43 } (va_Pc [.ref (mm 0), .int y0, .int y1, .int y2, .int y3, .int y4, .int y5, .int y6] (pd D (TY cy) G ([mO cy mm ik (nI n) (nI (rq.2)) (nI (te T n (rq.2))) vl (b2i (rq.1 = true)) rm rr om, ia cy (mm 5) 120 T]) sz)) (va_Qi (fun r (_ : Unit) => r = b2i (rq.1 = false ∧ isW T n (rq.2) i = true)) (fun _ _ => True) (va_A [] sz)) 0 0 (va_A [] sz) := by
  refine mk_rd (by decide) RX7 rfl (Nat.le_of_ble_eq_true rfl) [(0, .ref (mm 0)), (1, .int y0), (2, .int y1), (3, .int y2), (4, .int y3), (5, .int y4), (6, .int y5), (7, .int y6)] rfl ?_
  intro p e s m below meth c hx hb hml hown hr hlocks hw hsz hA hG hK H0 locs0 hP0 hS0 ls0 hl0
  have hte := te_b (T := T) hs
  have hw7 := wn_37 i hi
  have hwn := wn_if i hi
  rw [← hy3, ← hy4, ← hy5, ← hy6] at hwn
  refine rjn (ι := Int32) (A := va_A [] sz) (nL := 9) (D := D) (ws := [mO cy mm ik (nI n) (nI (rq.2)) (nI (te T n (rq.2))) vl (b2i (rq.1 = true)) rm rr om, ia cy (mm 5) 120 T]) (fun x9 => (x9 = nI (wn i))) (fun x9 => [(0, .ref (mm 0)), (1, .int y0), (2, .int y1), (3, .int y2), (4, .int y3), (5, .int y4), (6, .int y5), (7, .int y6)]) (fun x9 => [.int x9]) 39 ?_ (fun J_39 => ?_)
  · intro x9 hI H1 locs1 ls1 hP1 hS1 hl1
    obtain ⟨mn, rfl⟩ : ∃ z9, z9 = x9 := ⟨_, rfl⟩
    have hmn := hI
    replace hmn : mn = nI (wn i) := hmn
    replace hP1 : va_P D vwCl ([mO cy mm ik (nI n) (nI (rq.2)) (nI (te T n (rq.2))) vl (b2i (rq.1 = true)) rm rr om, ia cy (mm 5) 120 T]) H1 := hP1
    replace hl1 : lv_has ls1 9 [(0, .ref (mm 0)), (1, .int y0), (2, .int y1), (3, .int y2), (4, .int y3), (5, .int y4), (6, .int y5), (7, .int y6)] := hl1
    show W p l e _ s m _ below meth c _ _ _ _ _ (F0 m 39 ls1 [.int mn])
    refine tp (show (mn) = nI (wn i) from hmn) ?_
    refine lv_istore (lv' := [(8, .int (nI (wn i))), (0, .ref (mm 0)), (1, .int y0), (2, .int y1), (3, .int y2), (4, .int y3), (5, .int y4), (6, .int y5), (7, .int y6)]) hx hb dX7_isWord_39 hl1 (by decide) rfl (fun ls2 hl2 => ?_)
    clear hl1 ls1
    refine lv_aload_n hx hb dX7_isWord_41 rfl (lv_at hl2 1 rfl) ?_
    refine va_get (D := D) (ci := 7) (v := .int (b2i (rq.1 = true))) (C := RX7) (T := TX7) (N := 23) hx hb hw iX7 hown hK hP1 0 rfl rfl 10 (by decide) (hw _ kw_4_74) (fun _ h9 => h9) rfl dX7_isWord_42 ?_
    refine lb_ne (tgt := 134) hx hb dX7_isWord_45 (by decide) (fun c_45 => ?_) (fun c_45 => ?_)
    · refine lv_iconst (v := 0) hx hb dX7_isWord_134 (by decide) ?_
      exact rd_z hx hb hr hlocks hS1 dX7_isWord_135 rfl ((b2i_f (fun z9 => absurd (z9.1.symm.trans c_45) (by decide))).symm)
    · refine lv_aload_n hx hb dX7_isWord_48 rfl (lv_at hl2 1 rfl) ?_
      refine va_get (D := D) (ci := 7) (v := .int (nI (te T n (rq.2)))) (C := RX7) (T := TX7) (N := 23) hx hb hw iX7 hown hK hP1 0 rfl rfl 8 (by decide) (hw _ kw_4_72) (fun _ h9 => h9) rfl dX7_isWord_49 ?_
      refine lv_aload_n hx hb dX7_isWord_52 rfl (lv_at hl2 1 rfl) ?_
      refine va_get (D := D) (ci := 7) (v := .int (nI (rq.2))) (C := RX7) (T := TX7) (N := 23) hx hb hw iX7 hown hK hP1 0 rfl rfl 7 (by decide) (hw _ kw_4_71) (fun _ h9 => h9) rfl dX7_isWord_53 ?_
      refine lv_isub hx hb dX7_isWord_56 ?_
      refine tp (show ((nI (te T n (rq.2))) - (nI (rq.2))) = nI (te T n (rq.2) - rq.2) from pk_sub hte.1) ?_
      refine lv_iload hx hb dX7_isWord_57 (lv_at hl2 0 rfl) ?_
      refine ln_ne (tgt := 134) (te T n (rq.2) - rq.2) (wn i) rfl rfl (by omega) (by omega) hx hb dX7_isWord_59 (by decide) (fun c_59 => ?_) (fun c_59 => ?_)
      · refine lv_iconst (v := 0) hx hb dX7_isWord_134 (by decide) ?_
        exact rd_z hx hb hr hlocks hS1 dX7_isWord_135 rfl ((b2i_f (fun z9 => c_59 (by have h9 := ((isW_7 hi).mp z9.2).1; omega))).symm)
      · refine lv_aload_n hx hb dX7_isWord_62 rfl (lv_at hl2 1 rfl) ?_
        refine lv_iconst (v := 0) hx hb dX7_isWord_63 (by decide) ?_
        refine lv_iload_n hx hb dX7_isWord_64 rfl (lv_at hl2 2 rfl) ?_
        refine rV_i (wc := [mO cy mm ik (nI n) (nI (rq.2)) (nI (te T n (rq.2))) vl (b2i (rq.1 = true)) rm rr om, ia cy (mm 5) 120 T]) (rest := []) hx hb hml hown hw hG hK hP1 hS1 hA hl2 kc_X7_isAt kw_5_21 [.int 0, .int y0] (c_X7_isAt l D cy G H1.size mm ik (nI (te T n (rq.2))) vl (b2i (rq.1 = true)) rm rr om n T rq.2 0 y0 (by first | omega | assumption) (by first | omega | assumption) (by decide)) [0, 1] rfl 0 rfl rfl rfl rfl rfl (Nat.le_of_ble_eq_true rfl) ⟨Nat.le_of_ble_eq_true rfl, Nat.le_of_ble_eq_true rfl⟩ dX7_isWord_65 ⟨Nat.le_of_ble_eq_true rfl, Nat.le_of_ble_eq_true rfl⟩ (fun r_65 H2 locs2 hr_65 hP2 hS2 => ?_)
        clear hP1 hS1 locs1 H1
        subst hr_65
        refine lb_eq (tgt := 134) hx hb dX7_isWord_68 (by decide) (fun c_68 => ?_) (fun c_68 => ?_)
        · refine lv_iconst (v := 0) hx hb dX7_isWord_134 (by decide) ?_
          exact rd_z hx hb hr hlocks hS2 dX7_isWord_135 rfl ((b2i_f (fun z9 => c_68 (by rw [hy0]; exact ((isW_7 hi).mp z9.2).2.1))).symm)
        · refine lv_aload_n hx hb dX7_isWord_71 rfl (lv_at hl2 1 rfl) ?_
          refine lv_iconst (v := 1) hx hb dX7_isWord_72 (by decide) ?_
          refine lv_iload_n hx hb dX7_isWord_73 rfl (lv_at hl2 3 rfl) ?_
          refine rV_i (wc := [mO cy mm ik (nI n) (nI (rq.2)) (nI (te T n (rq.2))) vl (b2i (rq.1 = true)) rm rr om, ia cy (mm 5) 120 T]) (rest := []) hx hb hml hown hw hG hK hP2 hS2 hA hl2 kc_X7_isAt kw_5_21 [.int 1, .int y1] (c_X7_isAt l D cy G H2.size mm ik (nI (te T n (rq.2))) vl (b2i (rq.1 = true)) rm rr om n T rq.2 1 y1 (by first | omega | assumption) (by first | omega | assumption) (by decide)) [0, 1] rfl 0 rfl rfl rfl rfl rfl (Nat.le_of_ble_eq_true rfl) ⟨Nat.le_of_ble_eq_true rfl, Nat.le_of_ble_eq_true rfl⟩ dX7_isWord_74 ⟨Nat.le_of_ble_eq_true rfl, Nat.le_of_ble_eq_true rfl⟩ (fun r_74 H3 locs3 hr_74 hP3 hS3 => ?_)
          clear hP2 hS2 locs2 H2
          subst hr_74
          refine lb_eq (tgt := 134) hx hb dX7_isWord_77 (by decide) (fun c_77 => ?_) (fun c_77 => ?_)
          · refine lv_iconst (v := 0) hx hb dX7_isWord_134 (by decide) ?_
            exact rd_z hx hb hr hlocks hS3 dX7_isWord_135 rfl ((b2i_f (fun z9 => c_77 (by rw [hy1]; exact ((isW_7 hi).mp z9.2).2.2.1))).symm)
          · refine lv_aload_n hx hb dX7_isWord_80 rfl (lv_at hl2 1 rfl) ?_
            refine lv_iconst (v := 2) hx hb dX7_isWord_81 (by decide) ?_
            refine lv_iload_n hx hb dX7_isWord_82 rfl (lv_at hl2 4 rfl) ?_
            refine rV_i (wc := [mO cy mm ik (nI n) (nI (rq.2)) (nI (te T n (rq.2))) vl (b2i (rq.1 = true)) rm rr om, ia cy (mm 5) 120 T]) (rest := []) hx hb hml hown hw hG hK hP3 hS3 hA hl2 kc_X7_isAt kw_5_21 [.int 2, .int y2] (c_X7_isAt l D cy G H3.size mm ik (nI (te T n (rq.2))) vl (b2i (rq.1 = true)) rm rr om n T rq.2 2 y2 (by first | omega | assumption) (by first | omega | assumption) (by decide)) [0, 1] rfl 0 rfl rfl rfl rfl rfl (Nat.le_of_ble_eq_true rfl) ⟨Nat.le_of_ble_eq_true rfl, Nat.le_of_ble_eq_true rfl⟩ dX7_isWord_83 ⟨Nat.le_of_ble_eq_true rfl, Nat.le_of_ble_eq_true rfl⟩ (fun r_83 H4 locs4 hr_83 hP4 hS4 => ?_)
            clear hP3 hS3 locs3 H3
            subst hr_83
            refine lb_eq (tgt := 134) hx hb dX7_isWord_86 (by decide) (fun c_86 => ?_) (fun c_86 => ?_)
            · refine lv_iconst (v := 0) hx hb dX7_isWord_134 (by decide) ?_
              exact rd_z hx hb hr hlocks hS4 dX7_isWord_135 rfl ((b2i_f (fun z9 => c_86 (by rw [hy2]; exact ((isW_7 hi).mp z9.2).2.2.2.1))).symm)
            · refine lv_aload_n hx hb dX7_isWord_89 rfl (lv_at hl2 1 rfl) ?_
              refine lv_iconst (v := 3) hx hb dX7_isWord_90 (by decide) ?_
              refine lv_iload hx hb dX7_isWord_91 (lv_at hl2 5 rfl) ?_
              refine rV_i (wc := [mO cy mm ik (nI n) (nI (rq.2)) (nI (te T n (rq.2))) vl (b2i (rq.1 = true)) rm rr om, ia cy (mm 5) 120 T]) (rest := []) hx hb hml hown hw hG hK hP4 hS4 hA hl2 kc_X7_isAt kw_5_21 [.int 3, .int y3] (c_X7_isAt l D cy G H4.size mm ik (nI (te T n (rq.2))) vl (b2i (rq.1 = true)) rm rr om n T rq.2 3 y3 (by first | omega | assumption) (by first | omega | assumption) (by decide)) [0, 1] rfl 0 rfl rfl rfl rfl rfl (Nat.le_of_ble_eq_true rfl) ⟨Nat.le_of_ble_eq_true rfl, Nat.le_of_ble_eq_true rfl⟩ dX7_isWord_93 ⟨Nat.le_of_ble_eq_true rfl, Nat.le_of_ble_eq_true rfl⟩ (fun r_93 H5 locs5 hr_93 hP5 hS5 => ?_)
              clear hP4 hS4 locs4 H4
              subst hr_93
              refine lb_eq (tgt := 134) hx hb dX7_isWord_96 (by decide) (fun c_96 => ?_) (fun c_96 => ?_)
              · refine lv_iconst (v := 0) hx hb dX7_isWord_134 (by decide) ?_
                exact rd_z hx hb hr hlocks hS5 dX7_isWord_135 rfl ((b2i_f (fun z9 => c_96 (by rw [hy3]; exact ((isW_7 hi).mp z9.2).2.2.2.2.1))).symm)
              · refine lv_aload_n hx hb dX7_isWord_99 rfl (lv_at hl2 1 rfl) ?_
                refine lv_iconst (v := 4) hx hb dX7_isWord_100 (by decide) ?_
                refine lv_iload hx hb dX7_isWord_101 (lv_at hl2 6 rfl) ?_
                refine rV_i (wc := [mO cy mm ik (nI n) (nI (rq.2)) (nI (te T n (rq.2))) vl (b2i (rq.1 = true)) rm rr om, ia cy (mm 5) 120 T]) (rest := []) hx hb hml hown hw hG hK hP5 hS5 hA hl2 kc_X7_isAt kw_5_21 [.int 4, .int y4] (c_X7_isAt l D cy G H5.size mm ik (nI (te T n (rq.2))) vl (b2i (rq.1 = true)) rm rr om n T rq.2 4 y4 (by first | omega | assumption) (by first | omega | assumption) (by decide)) [0, 1] rfl 0 rfl rfl rfl rfl rfl (Nat.le_of_ble_eq_true rfl) ⟨Nat.le_of_ble_eq_true rfl, Nat.le_of_ble_eq_true rfl⟩ dX7_isWord_103 ⟨Nat.le_of_ble_eq_true rfl, Nat.le_of_ble_eq_true rfl⟩ (fun r_103 H6 locs6 hr_103 hP6 hS6 => ?_)
                clear hP5 hS5 locs5 H5
                subst hr_103
                refine lb_eq (tgt := 134) hx hb dX7_isWord_106 (by decide) (fun c_106 => ?_) (fun c_106 => ?_)
                · refine lv_iconst (v := 0) hx hb dX7_isWord_134 (by decide) ?_
                  exact rd_z hx hb hr hlocks hS6 dX7_isWord_135 rfl ((b2i_f (fun z9 => c_106 (by rw [hy4]; exact ((isW_7 hi).mp z9.2).2.2.2.2.2.1))).symm)
                · refine lv_aload_n hx hb dX7_isWord_109 rfl (lv_at hl2 1 rfl) ?_
                  refine lv_iconst (v := 5) hx hb dX7_isWord_110 (by decide) ?_
                  refine lv_iload hx hb dX7_isWord_111 (lv_at hl2 7 rfl) ?_
                  refine rV_i (wc := [mO cy mm ik (nI n) (nI (rq.2)) (nI (te T n (rq.2))) vl (b2i (rq.1 = true)) rm rr om, ia cy (mm 5) 120 T]) (rest := []) hx hb hml hown hw hG hK hP6 hS6 hA hl2 kc_X7_isAt kw_5_21 [.int 5, .int y5] (c_X7_isAt l D cy G H6.size mm ik (nI (te T n (rq.2))) vl (b2i (rq.1 = true)) rm rr om n T rq.2 5 y5 (by first | omega | assumption) (by first | omega | assumption) (by decide)) [0, 1] rfl 0 rfl rfl rfl rfl rfl (Nat.le_of_ble_eq_true rfl) ⟨Nat.le_of_ble_eq_true rfl, Nat.le_of_ble_eq_true rfl⟩ dX7_isWord_113 ⟨Nat.le_of_ble_eq_true rfl, Nat.le_of_ble_eq_true rfl⟩ (fun r_113 H7 locs7 hr_113 hP7 hS7 => ?_)
                  clear hP6 hS6 locs6 H6
                  subst hr_113
                  refine lb_eq (tgt := 134) hx hb dX7_isWord_116 (by decide) (fun c_116 => ?_) (fun c_116 => ?_)
                  · refine lv_iconst (v := 0) hx hb dX7_isWord_134 (by decide) ?_
                    exact rd_z hx hb hr hlocks hS7 dX7_isWord_135 rfl ((b2i_f (fun z9 => c_116 (by rw [hy5]; exact ((isW_7 hi).mp z9.2).2.2.2.2.2.2.1))).symm)
                  · refine lv_aload_n hx hb dX7_isWord_119 rfl (lv_at hl2 1 rfl) ?_
                    refine lv_bipush (v := 6) hx hb dX7_isWord_120 (by decide) ?_
                    refine lv_iload hx hb dX7_isWord_122 (lv_at hl2 8 rfl) ?_
                    refine rV_i (wc := [mO cy mm ik (nI n) (nI (rq.2)) (nI (te T n (rq.2))) vl (b2i (rq.1 = true)) rm rr om, ia cy (mm 5) 120 T]) (rest := []) hx hb hml hown hw hG hK hP7 hS7 hA hl2 kc_X7_isAt kw_5_21 [.int 6, .int y6] (c_X7_isAt l D cy G H7.size mm ik (nI (te T n (rq.2))) vl (b2i (rq.1 = true)) rm rr om n T rq.2 6 y6 (by first | omega | assumption) (by first | omega | assumption) (by decide)) [0, 1] rfl 0 rfl rfl rfl rfl rfl (Nat.le_of_ble_eq_true rfl) ⟨Nat.le_of_ble_eq_true rfl, Nat.le_of_ble_eq_true rfl⟩ dX7_isWord_124 ⟨Nat.le_of_ble_eq_true rfl, Nat.le_of_ble_eq_true rfl⟩ (fun r_124 H8 locs8 hr_124 hP8 hS8 => ?_)
                    clear hP7 hS7 locs7 H7
                    subst hr_124
                    refine lb_eq (tgt := 134) hx hb dX7_isWord_127 (by decide) (fun c_127 => ?_) (fun c_127 => ?_)
                    · refine lv_iconst (v := 0) hx hb dX7_isWord_134 (by decide) ?_
                      exact rd_z hx hb hr hlocks hS8 dX7_isWord_135 rfl ((b2i_f (fun z9 => c_127 (by rw [hy6]; exact ((isW_7 hi).mp z9.2).2.2.2.2.2.2.2))).symm)
                    · refine lv_iconst (v := 1) hx hb dX7_isWord_130 (by decide) ?_
                      refine lv_goto (tgt := 135) hx hb dX7_isWord_131 (by decide) ?_
                      exact rd_z hx hb hr hlocks hS8 dX7_isWord_135 rfl ((b2i_t ⟨by have h9 := c_45; simpa using h9, (isW_7 hi).mpr ⟨by omega, by rw [← hy0]; exact c_68, by rw [← hy1]; exact c_77, by rw [← hy2]; exact c_86, by rw [← hy3]; exact c_96, by rw [← hy4]; exact c_106, by rw [← hy5]; exact c_116, by rw [← hy6]; exact c_127⟩⟩).symm)
  refine lv_iload hx hb dX7_isWord_0 (lv_at hl0 4 rfl) ?_
  refine lv_if_ne (tgt := 9) hx hb dX7_isWord_2 (by decide) (fun c_2 => ?_) (fun c_2 => ?_)
  · refine lv_iload hx hb dX7_isWord_9 (lv_at hl0 5 rfl) ?_
    refine lv_if_ne (tgt := 18) hx hb dX7_isWord_11 (by decide) (fun c_11 => ?_) (fun c_11 => ?_)
    · refine lv_iload hx hb dX7_isWord_18 (lv_at hl0 6 rfl) ?_
      refine lv_if_ne (tgt := 27) hx hb dX7_isWord_20 (by decide) (fun c_20 => ?_) (fun c_20 => ?_)
      · refine lv_iload hx hb dX7_isWord_27 (lv_at hl0 7 rfl) ?_
        refine lv_if_ne (tgt := 37) hx hb dX7_isWord_29 (by decide) (fun c_29 => ?_) (fun c_29 => ?_)
        · refine lv_bipush (v := 7) hx hb dX7_isWord_37 (by decide) ?_
          exact J_39 7 ((hwn.trans ((if_neg c_2).trans ((if_neg c_11).trans ((if_neg c_20).trans (if_neg c_29))))).symm) H0 locs0 ls0 hP0 hS0 (lv_sub hl0 [0, 1, 2, 3, 4, 5, 6, 7] rfl)
        · refine lv_bipush (v := 6) hx hb dX7_isWord_32 (by decide) ?_
          refine lv_goto (tgt := 39) hx hb dX7_isWord_34 (by decide) ?_
          exact J_39 6 ((hwn.trans ((if_neg c_2).trans ((if_neg c_11).trans ((if_neg c_20).trans (if_pos c_29))))).symm) H0 locs0 ls0 hP0 hS0 (lv_sub hl0 [0, 1, 2, 3, 4, 5, 6, 7] rfl)
      · refine lv_iconst (v := 5) hx hb dX7_isWord_23 (by decide) ?_
        refine lv_goto (tgt := 39) hx hb dX7_isWord_24 (by decide) ?_
        exact J_39 5 ((hwn.trans ((if_neg c_2).trans ((if_neg c_11).trans (if_pos c_20)))).symm) H0 locs0 ls0 hP0 hS0 (lv_sub hl0 [0, 1, 2, 3, 4, 5, 6, 7] rfl)
    · refine lv_iconst (v := 4) hx hb dX7_isWord_14 (by decide) ?_
      refine lv_goto (tgt := 39) hx hb dX7_isWord_15 (by decide) ?_
      exact J_39 4 ((hwn.trans ((if_neg c_2).trans (if_pos c_11))).symm) H0 locs0 ls0 hP0 hS0 (lv_sub hl0 [0, 1, 2, 3, 4, 5, 6, 7] rfl)
  · refine lv_iconst (v := 3) hx hb dX7_isWord_5 (by decide) ?_
    refine lv_goto (tgt := 39) hx hb dX7_isWord_6 (by decide) ?_
    exact J_39 3 ((hwn.trans (if_pos c_2)).symm) H0 locs0 ls0 hP0 hS0 (lv_sub hl0 [0, 1, 2, 3, 4, 5, 6, 7] rfl)
